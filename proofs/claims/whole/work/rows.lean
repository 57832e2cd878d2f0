section
-- ===== PART A: goes FIRST, ahead of the names: the tables' words, and 'selects' of the private methods out of them =====
/-- a private method of a class that the tables say can be made, by its rows of tables_1 -/
def lw_okq (q : MethodName × Nat) : Prop := (q.1.cls ≠ "java/lang/invoke/MethodHandle" ∧ q.1.cls ≠ "java/lang/invoke/VarHandle") ∧ Cond.instantiable q.1.cls q.2 ∈ tables_1 ∧ Cond.privateMethod q.1 ∈ tables_1 ∧ Cond.instanceMethod q.1 ∈ tables_1
theorem lw_p0 : lw_okq (⟨"CycleSynthesis$Translator", "statements", "()Z"⟩, 7) := ⟨⟨by decide +kernel, by decide +kernel⟩, List.mem_of_getElem? (i := 49) (by decide +kernel), List.mem_of_getElem? (i := 390) (by decide +kernel), List.mem_of_getElem? (i := 391) (by decide +kernel)⟩
theorem lw_p1 : lw_okq (⟨"CycleSynthesis$Translator", "statement", "()Z"⟩, 7) := ⟨⟨by decide +kernel, by decide +kernel⟩, List.mem_of_getElem? (i := 49) (by decide +kernel), List.mem_of_getElem? (i := 405) (by decide +kernel), List.mem_of_getElem? (i := 406) (by decide +kernel)⟩
theorem lw_p2 : lw_okq (⟨"CycleSynthesis$Reader", "lettersHere", "()I"⟩, 2) := ⟨⟨by decide +kernel, by decide +kernel⟩, List.mem_of_getElem? (i := 55) (by decide +kernel), List.mem_of_getElem? (i := 414) (by decide +kernel), List.mem_of_getElem? (i := 415) (by decide +kernel)⟩
theorem lw_p3 : lw_okq (⟨"CycleSynthesis$Translator", "ifStatement", "()Z"⟩, 7) := ⟨⟨by decide +kernel, by decide +kernel⟩, List.mem_of_getElem? (i := 49) (by decide +kernel), List.mem_of_getElem? (i := 466) (by decide +kernel), List.mem_of_getElem? (i := 467) (by decide +kernel)⟩
theorem lw_p4 : lw_okq (⟨"CycleSynthesis$Translator", "choice", "(II)Z"⟩, 7) := ⟨⟨by decide +kernel, by decide +kernel⟩, List.mem_of_getElem? (i := 49) (by decide +kernel), List.mem_of_getElem? (i := 475) (by decide +kernel), List.mem_of_getElem? (i := 476) (by decide +kernel)⟩
theorem lw_p5 : lw_okq (⟨"CycleSynthesis$Translator", "expression", "()I"⟩, 7) := ⟨⟨by decide +kernel, by decide +kernel⟩, List.mem_of_getElem? (i := 49) (by decide +kernel), List.mem_of_getElem? (i := 491) (by decide +kernel), List.mem_of_getElem? (i := 492) (by decide +kernel)⟩
theorem lw_p6 : lw_okq (⟨"CycleSynthesis$Translator", "sum", "()I"⟩, 7) := ⟨⟨by decide +kernel, by decide +kernel⟩, List.mem_of_getElem? (i := 49) (by decide +kernel), List.mem_of_getElem? (i := 495) (by decide +kernel), List.mem_of_getElem? (i := 496) (by decide +kernel)⟩
theorem lw_p7 : lw_okq (⟨"CycleSynthesis$Translator", "term", "()I"⟩, 7) := ⟨⟨by decide +kernel, by decide +kernel⟩, List.mem_of_getElem? (i := 49) (by decide +kernel), List.mem_of_getElem? (i := 499) (by decide +kernel), List.mem_of_getElem? (i := 500) (by decide +kernel)⟩
theorem lw_p8 : lw_okq (⟨"CycleSynthesis$Translator", "factor", "()I"⟩, 7) := ⟨⟨by decide +kernel, by decide +kernel⟩, List.mem_of_getElem? (i := 49) (by decide +kernel), List.mem_of_getElem? (i := 503) (by decide +kernel), List.mem_of_getElem? (i := 504) (by decide +kernel)⟩
theorem lw_p9 : lw_okq (⟨"CycleSynthesis$Translator", "enclosed", "(II)I"⟩, 7) := ⟨⟨by decide +kernel, by decide +kernel⟩, List.mem_of_getElem? (i := 49) (by decide +kernel), List.mem_of_getElem? (i := 508) (by decide +kernel), List.mem_of_getElem? (i := 509) (by decide +kernel)⟩
theorem lw_p10 : lw_okq (⟨"CycleSynthesis$Translator", "meets", "(I)Z"⟩, 7) := ⟨⟨by decide +kernel, by decide +kernel⟩, List.mem_of_getElem? (i := 49) (by decide +kernel), List.mem_of_getElem? (i := 512) (by decide +kernel), List.mem_of_getElem? (i := 513) (by decide +kernel)⟩
theorem lw_p11 : lw_okq (⟨"CycleSynthesis$Translator", "refuseHere", "(I)Z"⟩, 7) := ⟨⟨by decide +kernel, by decide +kernel⟩, List.mem_of_getElem? (i := 49) (by decide +kernel), List.mem_of_getElem? (i := 516) (by decide +kernel), List.mem_of_getElem? (i := 517) (by decide +kernel)⟩
theorem lw_p12 : lw_okq (⟨"CycleSynthesis$Translator", "refuse", "(II)Z"⟩, 7) := ⟨⟨by decide +kernel, by decide +kernel⟩, List.mem_of_getElem? (i := 49) (by decide +kernel), List.mem_of_getElem? (i := 520) (by decide +kernel), List.mem_of_getElem? (i := 521) (by decide +kernel)⟩
theorem lw_p13 : lw_okq (⟨"CycleSynthesis$Translator", "passes", "(I)Z"⟩, 7) := ⟨⟨by decide +kernel, by decide +kernel⟩, List.mem_of_getElem? (i := 49) (by decide +kernel), List.mem_of_getElem? (i := 524) (by decide +kernel), List.mem_of_getElem? (i := 525) (by decide +kernel)⟩
theorem lw_p14 : lw_okq (⟨"CycleSynthesis$Translator", "number", "()I"⟩, 7) := ⟨⟨by decide +kernel, by decide +kernel⟩, List.mem_of_getElem? (i := 49) (by decide +kernel), List.mem_of_getElem? (i := 535) (by decide +kernel), List.mem_of_getElem? (i := 536) (by decide +kernel)⟩
theorem lw_p15 : lw_okq (⟨"CycleSynthesis$Translator", "read", "()I"⟩, 7) := ⟨⟨by decide +kernel, by decide +kernel⟩, List.mem_of_getElem? (i := 49) (by decide +kernel), List.mem_of_getElem? (i := 551) (by decide +kernel), List.mem_of_getElem? (i := 552) (by decide +kernel)⟩
def lw_privs_1 : List (MethodName × Nat) := [(⟨"CycleSynthesis$Translator", "statements", "()Z"⟩, 7), (⟨"CycleSynthesis$Translator", "statement", "()Z"⟩, 7), (⟨"CycleSynthesis$Reader", "lettersHere", "()I"⟩, 2), (⟨"CycleSynthesis$Translator", "ifStatement", "()Z"⟩, 7), (⟨"CycleSynthesis$Translator", "choice", "(II)Z"⟩, 7), (⟨"CycleSynthesis$Translator", "expression", "()I"⟩, 7), (⟨"CycleSynthesis$Translator", "sum", "()I"⟩, 7), (⟨"CycleSynthesis$Translator", "term", "()I"⟩, 7), (⟨"CycleSynthesis$Translator", "factor", "()I"⟩, 7), (⟨"CycleSynthesis$Translator", "enclosed", "(II)I"⟩, 7), (⟨"CycleSynthesis$Translator", "meets", "(I)Z"⟩, 7), (⟨"CycleSynthesis$Translator", "refuseHere", "(I)Z"⟩, 7), (⟨"CycleSynthesis$Translator", "refuse", "(II)Z"⟩, 7), (⟨"CycleSynthesis$Translator", "passes", "(I)Z"⟩, 7), (⟨"CycleSynthesis$Translator", "number", "()I"⟩, 7), (⟨"CycleSynthesis$Translator", "read", "()I"⟩, 7)]
theorem lw_r1 : ∀ q ∈ lw_privs_1, lw_okq q := List.forall_mem_cons.mpr ⟨lw_p0, List.forall_mem_cons.mpr ⟨lw_p1, List.forall_mem_cons.mpr ⟨lw_p2, List.forall_mem_cons.mpr ⟨lw_p3, List.forall_mem_cons.mpr ⟨lw_p4, List.forall_mem_cons.mpr ⟨lw_p5, List.forall_mem_cons.mpr ⟨lw_p6, List.forall_mem_cons.mpr ⟨lw_p7, List.forall_mem_cons.mpr ⟨lw_p8, List.forall_mem_cons.mpr ⟨lw_p9, List.forall_mem_cons.mpr ⟨lw_p10, List.forall_mem_cons.mpr ⟨lw_p11, List.forall_mem_cons.mpr ⟨lw_p12, List.forall_mem_cons.mpr ⟨lw_p13, List.forall_mem_cons.mpr ⟨lw_p14, List.forall_mem_cons.mpr ⟨lw_p15, fun _ h => absurd h List.not_mem_nil⟩⟩⟩⟩⟩⟩⟩⟩⟩⟩⟩⟩⟩⟩⟩⟩
theorem lw_p16 : lw_okq (⟨"CycleSynthesis$Translator", "add", "(IIII)I"⟩, 7) := ⟨⟨by decide +kernel, by decide +kernel⟩, List.mem_of_getElem? (i := 49) (by decide +kernel), List.mem_of_getElem? (i := 555) (by decide +kernel), List.mem_of_getElem? (i := 556) (by decide +kernel)⟩
theorem lw_p17 : lw_okq (⟨"CycleSynthesis$Translator", "body", "(I)Z"⟩, 7) := ⟨⟨by decide +kernel, by decide +kernel⟩, List.mem_of_getElem? (i := 49) (by decide +kernel), List.mem_of_getElem? (i := 588) (by decide +kernel), List.mem_of_getElem? (i := 589) (by decide +kernel)⟩
theorem lw_p18 : lw_okq (⟨"CycleSynthesis$Translator", "whileStatement", "()Z"⟩, 7) := ⟨⟨by decide +kernel, by decide +kernel⟩, List.mem_of_getElem? (i := 49) (by decide +kernel), List.mem_of_getElem? (i := 599) (by decide +kernel), List.mem_of_getElem? (i := 600) (by decide +kernel)⟩
theorem lw_p19 : lw_okq (⟨"CycleSynthesis$Translator", "write", "()Z"⟩, 7) := ⟨⟨by decide +kernel, by decide +kernel⟩, List.mem_of_getElem? (i := 49) (by decide +kernel), List.mem_of_getElem? (i := 603) (by decide +kernel), List.mem_of_getElem? (i := 604) (by decide +kernel)⟩
theorem lw_p20 : lw_okq (⟨"CycleSynthesis$Translator", "assignment", "(I)Z"⟩, 7) := ⟨⟨by decide +kernel, by decide +kernel⟩, List.mem_of_getElem? (i := 49) (by decide +kernel), List.mem_of_getElem? (i := 607) (by decide +kernel), List.mem_of_getElem? (i := 608) (by decide +kernel)⟩
theorem lw_p21 : lw_okq (⟨"CycleSynthesis$Ways", "blockFrom", "(I)I"⟩, 6) := ⟨⟨by decide +kernel, by decide +kernel⟩, List.mem_of_getElem? (i := 69) (by decide +kernel), List.mem_of_getElem? (i := 621) (by decide +kernel), List.mem_of_getElem? (i := 622) (by decide +kernel)⟩
theorem lw_p22 : lw_okq (⟨"CycleSynthesis$Layer", "prepare", "(LCycleSynthesis$Program;LCycleSynthesis$Block;)V"⟩, 6) := ⟨⟨by decide +kernel, by decide +kernel⟩, List.mem_of_getElem? (i := 118) (by decide +kernel), List.mem_of_getElem? (i := 629) (by decide +kernel), List.mem_of_getElem? (i := 630) (by decide +kernel)⟩
theorem lw_p23 : lw_okq (⟨"CycleSynthesis$Layer", "measureHeights", "(LCycleSynthesis$Program;LCycleSynthesis$Block;)V"⟩, 6) := ⟨⟨by decide +kernel, by decide +kernel⟩, List.mem_of_getElem? (i := 118) (by decide +kernel), List.mem_of_getElem? (i := 633) (by decide +kernel), List.mem_of_getElem? (i := 634) (by decide +kernel)⟩
theorem lw_p24 : lw_okq (⟨"CycleSynthesis$Operation", "uses", "(I)Z"⟩, 15) := ⟨⟨by decide +kernel, by decide +kernel⟩, List.mem_of_getElem? (i := 180) (by decide +kernel), List.mem_of_getElem? (i := 642) (by decide +kernel), List.mem_of_getElem? (i := 643) (by decide +kernel)⟩
theorem lw_p25 : lw_okq (⟨"CycleSynthesis$Operation", "touchesGiven", "(LCycleSynthesis$Operation;)Z"⟩, 15) := ⟨⟨by decide +kernel, by decide +kernel⟩, List.mem_of_getElem? (i := 180) (by decide +kernel), List.mem_of_getElem? (i := 646) (by decide +kernel), List.mem_of_getElem? (i := 647) (by decide +kernel)⟩
theorem lw_p26 : lw_okq (⟨"CycleSynthesis$Operation", "usesGiven", "(LCycleSynthesis$Operation;)Z"⟩, 15) := ⟨⟨by decide +kernel, by decide +kernel⟩, List.mem_of_getElem? (i := 180) (by decide +kernel), List.mem_of_getElem? (i := 650) (by decide +kernel), List.mem_of_getElem? (i := 651) (by decide +kernel)⟩
theorem lw_p27 : lw_okq (⟨"CycleSynthesis$Layer", "rank", "(LCycleSynthesis$Program;LCycleSynthesis$Block;)V"⟩, 6) := ⟨⟨by decide +kernel, by decide +kernel⟩, List.mem_of_getElem? (i := 118) (by decide +kernel), List.mem_of_getElem? (i := 658) (by decide +kernel), List.mem_of_getElem? (i := 659) (by decide +kernel)⟩
theorem lw_p28 : lw_okq (⟨"CycleSynthesis$Layer", "beginAll", "(LCycleSynthesis$Program;LCycleSynthesis$Block;)V"⟩, 6) := ⟨⟨by decide +kernel, by decide +kernel⟩, List.mem_of_getElem? (i := 118) (by decide +kernel), List.mem_of_getElem? (i := 662) (by decide +kernel), List.mem_of_getElem? (i := 663) (by decide +kernel)⟩
theorem lw_p29 : lw_okq (⟨"CycleSynthesis$Layer", "begins", "(LCycleSynthesis$Operation;I)Z"⟩, 6) := ⟨⟨by decide +kernel, by decide +kernel⟩, List.mem_of_getElem? (i := 118) (by decide +kernel), List.mem_of_getElem? (i := 666) (by decide +kernel), List.mem_of_getElem? (i := 667) (by decide +kernel)⟩
theorem lw_p30 : lw_okq (⟨"CycleSynthesis$Layer", "freeUnit", "(II)I"⟩, 6) := ⟨⟨by decide +kernel, by decide +kernel⟩, List.mem_of_getElem? (i := 118) (by decide +kernel), List.mem_of_getElem? (i := 674) (by decide +kernel), List.mem_of_getElem? (i := 675) (by decide +kernel)⟩
theorem lw_p31 : lw_okq (⟨"CycleSynthesis$Layer", "tellThoseBehind", "(LCycleSynthesis$Program;LCycleSynthesis$Block;LCycleSynthesis$Operation;)V"⟩, 6) := ⟨⟨by decide +kernel, by decide +kernel⟩, List.mem_of_getElem? (i := 118) (by decide +kernel), List.mem_of_getElem? (i := 682) (by decide +kernel), List.mem_of_getElem? (i := 683) (by decide +kernel)⟩
def lw_privs_2 : List (MethodName × Nat) := [(⟨"CycleSynthesis$Translator", "add", "(IIII)I"⟩, 7), (⟨"CycleSynthesis$Translator", "body", "(I)Z"⟩, 7), (⟨"CycleSynthesis$Translator", "whileStatement", "()Z"⟩, 7), (⟨"CycleSynthesis$Translator", "write", "()Z"⟩, 7), (⟨"CycleSynthesis$Translator", "assignment", "(I)Z"⟩, 7), (⟨"CycleSynthesis$Ways", "blockFrom", "(I)I"⟩, 6), (⟨"CycleSynthesis$Layer", "prepare", "(LCycleSynthesis$Program;LCycleSynthesis$Block;)V"⟩, 6), (⟨"CycleSynthesis$Layer", "measureHeights", "(LCycleSynthesis$Program;LCycleSynthesis$Block;)V"⟩, 6), (⟨"CycleSynthesis$Operation", "uses", "(I)Z"⟩, 15), (⟨"CycleSynthesis$Operation", "touchesGiven", "(LCycleSynthesis$Operation;)Z"⟩, 15), (⟨"CycleSynthesis$Operation", "usesGiven", "(LCycleSynthesis$Operation;)Z"⟩, 15), (⟨"CycleSynthesis$Layer", "rank", "(LCycleSynthesis$Program;LCycleSynthesis$Block;)V"⟩, 6), (⟨"CycleSynthesis$Layer", "beginAll", "(LCycleSynthesis$Program;LCycleSynthesis$Block;)V"⟩, 6), (⟨"CycleSynthesis$Layer", "begins", "(LCycleSynthesis$Operation;I)Z"⟩, 6), (⟨"CycleSynthesis$Layer", "freeUnit", "(II)I"⟩, 6), (⟨"CycleSynthesis$Layer", "tellThoseBehind", "(LCycleSynthesis$Program;LCycleSynthesis$Block;LCycleSynthesis$Operation;)V"⟩, 6)]
theorem lw_r2 : ∀ q ∈ lw_privs_2, lw_okq q := List.forall_mem_cons.mpr ⟨lw_p16, List.forall_mem_cons.mpr ⟨lw_p17, List.forall_mem_cons.mpr ⟨lw_p18, List.forall_mem_cons.mpr ⟨lw_p19, List.forall_mem_cons.mpr ⟨lw_p20, List.forall_mem_cons.mpr ⟨lw_p21, List.forall_mem_cons.mpr ⟨lw_p22, List.forall_mem_cons.mpr ⟨lw_p23, List.forall_mem_cons.mpr ⟨lw_p24, List.forall_mem_cons.mpr ⟨lw_p25, List.forall_mem_cons.mpr ⟨lw_p26, List.forall_mem_cons.mpr ⟨lw_p27, List.forall_mem_cons.mpr ⟨lw_p28, List.forall_mem_cons.mpr ⟨lw_p29, List.forall_mem_cons.mpr ⟨lw_p30, List.forall_mem_cons.mpr ⟨lw_p31, fun _ h => absurd h List.not_mem_nil⟩⟩⟩⟩⟩⟩⟩⟩⟩⟩⟩⟩⟩⟩⟩⟩
theorem lw_p32 : lw_okq (⟨"CycleSynthesis$Layer", "noteUses", "(LCycleSynthesis$Program;LCycleSynthesis$Block;)V"⟩, 6) := ⟨⟨by decide +kernel, by decide +kernel⟩, List.mem_of_getElem? (i := 118) (by decide +kernel), List.mem_of_getElem? (i := 686) (by decide +kernel), List.mem_of_getElem? (i := 687) (by decide +kernel)⟩
theorem lw_p33 : lw_okq (⟨"CycleSynthesis$Layer", "noteUse", "(LCycleSynthesis$Program;II)V"⟩, 6) := ⟨⟨by decide +kernel, by decide +kernel⟩, List.mem_of_getElem? (i := 118) (by decide +kernel), List.mem_of_getElem? (i := 690) (by decide +kernel), List.mem_of_getElem? (i := 691) (by decide +kernel)⟩
theorem lw_p34 : lw_okq (⟨"CycleSynthesis$Layer", "bindRegisters", "(LCycleSynthesis$Program;LCycleSynthesis$Block;)V"⟩, 6) := ⟨⟨by decide +kernel, by decide +kernel⟩, List.mem_of_getElem? (i := 118) (by decide +kernel), List.mem_of_getElem? (i := 696) (by decide +kernel), List.mem_of_getElem? (i := 697) (by decide +kernel)⟩
theorem lw_p35 : lw_okq (⟨"CycleSynthesis$Layer", "freeRegister", "(II)I"⟩, 6) := ⟨⟨by decide +kernel, by decide +kernel⟩, List.mem_of_getElem? (i := 118) (by decide +kernel), List.mem_of_getElem? (i := 704) (by decide +kernel), List.mem_of_getElem? (i := 705) (by decide +kernel)⟩
theorem lw_p36 : lw_okq (⟨"java/lang/Throwable", "fillInStackTrace", "(I)Ljava/lang/Throwable;"⟩, 6) := ⟨⟨by decide +kernel, by decide +kernel⟩, List.mem_of_getElem? (i := 774) (by decide +kernel), List.mem_of_getElem? (i := 772) (by decide +kernel), List.mem_of_getElem? (i := 773) (by decide +kernel)⟩
theorem lw_p37 : lw_okq (⟨"CycleSynthesis$Machine", "perform", "(LCycleSynthesis$Block;)V"⟩, 6) := ⟨⟨by decide +kernel, by decide +kernel⟩, List.mem_of_getElem? (i := 145) (by decide +kernel), List.mem_of_getElem? (i := 908) (by decide +kernel), List.mem_of_getElem? (i := 909) (by decide +kernel)⟩
theorem lw_p38 : lw_okq (⟨"CycleSynthesis$Machine", "outcome", "(LCycleSynthesis$Operation;)I"⟩, 6) := ⟨⟨by decide +kernel, by decide +kernel⟩, List.mem_of_getElem? (i := 145) (by decide +kernel), List.mem_of_getElem? (i := 912) (by decide +kernel), List.mem_of_getElem? (i := 913) (by decide +kernel)⟩
theorem lw_p39 : lw_okq (⟨"CycleSynthesis$Machine", "taken", "(I)I"⟩, 6) := ⟨⟨by decide +kernel, by decide +kernel⟩, List.mem_of_getElem? (i := 145) (by decide +kernel), List.mem_of_getElem? (i := 916) (by decide +kernel), List.mem_of_getElem? (i := 917) (by decide +kernel)⟩
theorem lw_p40 : lw_okq (⟨"CycleSynthesisModel", "keepProgram", "()V"⟩, 51) := ⟨⟨by decide +kernel, by decide +kernel⟩, List.mem_of_getElem? (i := 928) (by decide +kernel), List.mem_of_getElem? (i := 934) (by decide +kernel), List.mem_of_getElem? (i := 935) (by decide +kernel)⟩
theorem lw_p41 : lw_okq (⟨"CycleSynthesisModel", "lay", "()V"⟩, 51) := ⟨⟨by decide +kernel, by decide +kernel⟩, List.mem_of_getElem? (i := 928) (by decide +kernel), List.mem_of_getElem? (i := 938) (by decide +kernel), List.mem_of_getElem? (i := 939) (by decide +kernel)⟩
theorem lw_p42 : lw_okq (⟨"CycleSynthesisModel", "layBlock", "(I)V"⟩, 51) := ⟨⟨by decide +kernel, by decide +kernel⟩, List.mem_of_getElem? (i := 928) (by decide +kernel), List.mem_of_getElem? (i := 942) (by decide +kernel), List.mem_of_getElem? (i := 943) (by decide +kernel)⟩
theorem lw_p43 : lw_okq (⟨"CycleSynthesisModel", "first", "(I)I"⟩, 51) := ⟨⟨by decide +kernel, by decide +kernel⟩, List.mem_of_getElem? (i := 928) (by decide +kernel), List.mem_of_getElem? (i := 946) (by decide +kernel), List.mem_of_getElem? (i := 947) (by decide +kernel)⟩
theorem lw_p44 : lw_okq (⟨"CycleSynthesisModel", "behindAll", "(I)I"⟩, 51) := ⟨⟨by decide +kernel, by decide +kernel⟩, List.mem_of_getElem? (i := 928) (by decide +kernel), List.mem_of_getElem? (i := 950) (by decide +kernel), List.mem_of_getElem? (i := 951) (by decide +kernel)⟩
theorem lw_p45 : lw_okq (⟨"CycleSynthesisModel", "comesBehind", "(II)Z"⟩, 51) := ⟨⟨by decide +kernel, by decide +kernel⟩, List.mem_of_getElem? (i := 928) (by decide +kernel), List.mem_of_getElem? (i := 954) (by decide +kernel), List.mem_of_getElem? (i := 955) (by decide +kernel)⟩
theorem lw_p46 : lw_okq (⟨"CycleSynthesisModel", "usesValue", "(II)Z"⟩, 51) := ⟨⟨by decide +kernel, by decide +kernel⟩, List.mem_of_getElem? (i := 928) (by decide +kernel), List.mem_of_getElem? (i := 958) (by decide +kernel), List.mem_of_getElem? (i := 959) (by decide +kernel)⟩
theorem lw_p47 : lw_okq (⟨"CycleSynthesisModel", "usesVariable", "(II)Z"⟩, 51) := ⟨⟨by decide +kernel, by decide +kernel⟩, List.mem_of_getElem? (i := 928) (by decide +kernel), List.mem_of_getElem? (i := 962) (by decide +kernel), List.mem_of_getElem? (i := 963) (by decide +kernel)⟩
def lw_privs_3 : List (MethodName × Nat) := [(⟨"CycleSynthesis$Layer", "noteUses", "(LCycleSynthesis$Program;LCycleSynthesis$Block;)V"⟩, 6), (⟨"CycleSynthesis$Layer", "noteUse", "(LCycleSynthesis$Program;II)V"⟩, 6), (⟨"CycleSynthesis$Layer", "bindRegisters", "(LCycleSynthesis$Program;LCycleSynthesis$Block;)V"⟩, 6), (⟨"CycleSynthesis$Layer", "freeRegister", "(II)I"⟩, 6), (⟨"java/lang/Throwable", "fillInStackTrace", "(I)Ljava/lang/Throwable;"⟩, 6), (⟨"CycleSynthesis$Machine", "perform", "(LCycleSynthesis$Block;)V"⟩, 6), (⟨"CycleSynthesis$Machine", "outcome", "(LCycleSynthesis$Operation;)I"⟩, 6), (⟨"CycleSynthesis$Machine", "taken", "(I)I"⟩, 6), (⟨"CycleSynthesisModel", "keepProgram", "()V"⟩, 51), (⟨"CycleSynthesisModel", "lay", "()V"⟩, 51), (⟨"CycleSynthesisModel", "layBlock", "(I)V"⟩, 51), (⟨"CycleSynthesisModel", "first", "(I)I"⟩, 51), (⟨"CycleSynthesisModel", "behindAll", "(I)I"⟩, 51), (⟨"CycleSynthesisModel", "comesBehind", "(II)Z"⟩, 51), (⟨"CycleSynthesisModel", "usesValue", "(II)Z"⟩, 51), (⟨"CycleSynthesisModel", "usesVariable", "(II)Z"⟩, 51)]
theorem lw_r3 : ∀ q ∈ lw_privs_3, lw_okq q := List.forall_mem_cons.mpr ⟨lw_p32, List.forall_mem_cons.mpr ⟨lw_p33, List.forall_mem_cons.mpr ⟨lw_p34, List.forall_mem_cons.mpr ⟨lw_p35, List.forall_mem_cons.mpr ⟨lw_p36, List.forall_mem_cons.mpr ⟨lw_p37, List.forall_mem_cons.mpr ⟨lw_p38, List.forall_mem_cons.mpr ⟨lw_p39, List.forall_mem_cons.mpr ⟨lw_p40, List.forall_mem_cons.mpr ⟨lw_p41, List.forall_mem_cons.mpr ⟨lw_p42, List.forall_mem_cons.mpr ⟨lw_p43, List.forall_mem_cons.mpr ⟨lw_p44, List.forall_mem_cons.mpr ⟨lw_p45, List.forall_mem_cons.mpr ⟨lw_p46, List.forall_mem_cons.mpr ⟨lw_p47, fun _ h => absurd h List.not_mem_nil⟩⟩⟩⟩⟩⟩⟩⟩⟩⟩⟩⟩⟩⟩⟩⟩
theorem lw_p48 : lw_okq (⟨"CycleSynthesisModel", "latencyOf", "(I)I"⟩, 51) := ⟨⟨by decide +kernel, by decide +kernel⟩, List.mem_of_getElem? (i := 928) (by decide +kernel), List.mem_of_getElem? (i := 969) (by decide +kernel), List.mem_of_getElem? (i := 970) (by decide +kernel)⟩
theorem lw_p49 : lw_okq (⟨"CycleSynthesisModel", "beginOne", "(II)Z"⟩, 51) := ⟨⟨by decide +kernel, by decide +kernel⟩, List.mem_of_getElem? (i := 928) (by decide +kernel), List.mem_of_getElem? (i := 973) (by decide +kernel), List.mem_of_getElem? (i := 974) (by decide +kernel)⟩
theorem lw_p50 : lw_okq (⟨"CycleSynthesisModel", "isReady", "(III)Z"⟩, 51) := ⟨⟨by decide +kernel, by decide +kernel⟩, List.mem_of_getElem? (i := 928) (by decide +kernel), List.mem_of_getElem? (i := 977) (by decide +kernel), List.mem_of_getElem? (i := 978) (by decide +kernel)⟩
theorem lw_p51 : lw_okq (⟨"CycleSynthesisModel", "endOf", "(I)I"⟩, 51) := ⟨⟨by decide +kernel, by decide +kernel⟩, List.mem_of_getElem? (i := 928) (by decide +kernel), List.mem_of_getElem? (i := 981) (by decide +kernel), List.mem_of_getElem? (i := 982) (by decide +kernel)⟩
theorem lw_p52 : lw_okq (⟨"CycleSynthesisModel", "freeUnit", "(III)I"⟩, 51) := ⟨⟨by decide +kernel, by decide +kernel⟩, List.mem_of_getElem? (i := 928) (by decide +kernel), List.mem_of_getElem? (i := 985) (by decide +kernel), List.mem_of_getElem? (i := 986) (by decide +kernel)⟩
theorem lw_p53 : lw_okq (⟨"CycleSynthesisModel", "bindRegisters", "()V"⟩, 51) := ⟨⟨by decide +kernel, by decide +kernel⟩, List.mem_of_getElem? (i := 928) (by decide +kernel), List.mem_of_getElem? (i := 989) (by decide +kernel), List.mem_of_getElem? (i := 990) (by decide +kernel)⟩
theorem lw_p54 : lw_okq (⟨"CycleSynthesisModel", "heldTo", "(I)I"⟩, 51) := ⟨⟨by decide +kernel, by decide +kernel⟩, List.mem_of_getElem? (i := 928) (by decide +kernel), List.mem_of_getElem? (i := 993) (by decide +kernel), List.mem_of_getElem? (i := 994) (by decide +kernel)⟩
theorem lw_p55 : lw_okq (⟨"CycleSynthesisModel", "isEnd", "(II)Z"⟩, 51) := ⟨⟨by decide +kernel, by decide +kernel⟩, List.mem_of_getElem? (i := 928) (by decide +kernel), List.mem_of_getElem? (i := 997) (by decide +kernel), List.mem_of_getElem? (i := 998) (by decide +kernel)⟩
theorem lw_p56 : lw_okq (⟨"CycleSynthesisModel", "holds", "(I)Z"⟩, 51) := ⟨⟨by decide +kernel, by decide +kernel⟩, List.mem_of_getElem? (i := 928) (by decide +kernel), List.mem_of_getElem? (i := 1001) (by decide +kernel), List.mem_of_getElem? (i := 1002) (by decide +kernel)⟩
theorem lw_p57 : lw_okq (⟨"CycleSynthesisModel", "isBefore", "(II)Z"⟩, 51) := ⟨⟨by decide +kernel, by decide +kernel⟩, List.mem_of_getElem? (i := 928) (by decide +kernel), List.mem_of_getElem? (i := 1005) (by decide +kernel), List.mem_of_getElem? (i := 1006) (by decide +kernel)⟩
theorem lw_p58 : lw_okq (⟨"CycleSynthesisModel", "bindOne", "(I)V"⟩, 51) := ⟨⟨by decide +kernel, by decide +kernel⟩, List.mem_of_getElem? (i := 928) (by decide +kernel), List.mem_of_getElem? (i := 1009) (by decide +kernel), List.mem_of_getElem? (i := 1010) (by decide +kernel)⟩
theorem lw_p59 : lw_okq (⟨"CycleSynthesisModel", "meet", "(II)Z"⟩, 51) := ⟨⟨by decide +kernel, by decide +kernel⟩, List.mem_of_getElem? (i := 928) (by decide +kernel), List.mem_of_getElem? (i := 1013) (by decide +kernel), List.mem_of_getElem? (i := 1014) (by decide +kernel)⟩
theorem lw_p60 : lw_okq (⟨"CycleSynthesisModel", "stand", "()V"⟩, 51) := ⟨⟨by decide +kernel, by decide +kernel⟩, List.mem_of_getElem? (i := 928) (by decide +kernel), List.mem_of_getElem? (i := 1017) (by decide +kernel), List.mem_of_getElem? (i := 1018) (by decide +kernel)⟩
theorem lw_p61 : lw_okq (⟨"CycleSynthesisModel", "statements", "()V"⟩, 51) := ⟨⟨by decide +kernel, by decide +kernel⟩, List.mem_of_getElem? (i := 928) (by decide +kernel), List.mem_of_getElem? (i := 1193) (by decide +kernel), List.mem_of_getElem? (i := 1194) (by decide +kernel)⟩
theorem lw_p62 : lw_okq (⟨"CycleSynthesisModel", "next", "()I"⟩, 51) := ⟨⟨by decide +kernel, by decide +kernel⟩, List.mem_of_getElem? (i := 928) (by decide +kernel), List.mem_of_getElem? (i := 1197) (by decide +kernel), List.mem_of_getElem? (i := 1198) (by decide +kernel)⟩
theorem lw_p63 : lw_okq (⟨"CycleSynthesisModel", "byteAt", "(I)I"⟩, 51) := ⟨⟨by decide +kernel, by decide +kernel⟩, List.mem_of_getElem? (i := 928) (by decide +kernel), List.mem_of_getElem? (i := 1201) (by decide +kernel), List.mem_of_getElem? (i := 1202) (by decide +kernel)⟩
def lw_privs_4 : List (MethodName × Nat) := [(⟨"CycleSynthesisModel", "latencyOf", "(I)I"⟩, 51), (⟨"CycleSynthesisModel", "beginOne", "(II)Z"⟩, 51), (⟨"CycleSynthesisModel", "isReady", "(III)Z"⟩, 51), (⟨"CycleSynthesisModel", "endOf", "(I)I"⟩, 51), (⟨"CycleSynthesisModel", "freeUnit", "(III)I"⟩, 51), (⟨"CycleSynthesisModel", "bindRegisters", "()V"⟩, 51), (⟨"CycleSynthesisModel", "heldTo", "(I)I"⟩, 51), (⟨"CycleSynthesisModel", "isEnd", "(II)Z"⟩, 51), (⟨"CycleSynthesisModel", "holds", "(I)Z"⟩, 51), (⟨"CycleSynthesisModel", "isBefore", "(II)Z"⟩, 51), (⟨"CycleSynthesisModel", "bindOne", "(I)V"⟩, 51), (⟨"CycleSynthesisModel", "meet", "(II)Z"⟩, 51), (⟨"CycleSynthesisModel", "stand", "()V"⟩, 51), (⟨"CycleSynthesisModel", "statements", "()V"⟩, 51), (⟨"CycleSynthesisModel", "next", "()I"⟩, 51), (⟨"CycleSynthesisModel", "byteAt", "(I)I"⟩, 51)]
theorem lw_r4 : ∀ q ∈ lw_privs_4, lw_okq q := List.forall_mem_cons.mpr ⟨lw_p48, List.forall_mem_cons.mpr ⟨lw_p49, List.forall_mem_cons.mpr ⟨lw_p50, List.forall_mem_cons.mpr ⟨lw_p51, List.forall_mem_cons.mpr ⟨lw_p52, List.forall_mem_cons.mpr ⟨lw_p53, List.forall_mem_cons.mpr ⟨lw_p54, List.forall_mem_cons.mpr ⟨lw_p55, List.forall_mem_cons.mpr ⟨lw_p56, List.forall_mem_cons.mpr ⟨lw_p57, List.forall_mem_cons.mpr ⟨lw_p58, List.forall_mem_cons.mpr ⟨lw_p59, List.forall_mem_cons.mpr ⟨lw_p60, List.forall_mem_cons.mpr ⟨lw_p61, List.forall_mem_cons.mpr ⟨lw_p62, List.forall_mem_cons.mpr ⟨lw_p63, fun _ h => absurd h List.not_mem_nil⟩⟩⟩⟩⟩⟩⟩⟩⟩⟩⟩⟩⟩⟩⟩⟩
theorem lw_p64 : lw_okq (⟨"CycleSynthesisModel", "word", "()I"⟩, 51) := ⟨⟨by decide +kernel, by decide +kernel⟩, List.mem_of_getElem? (i := 928) (by decide +kernel), List.mem_of_getElem? (i := 1208) (by decide +kernel), List.mem_of_getElem? (i := 1209) (by decide +kernel)⟩
theorem lw_p65 : lw_okq (⟨"CycleSynthesisModel", "wordSize", "(I)I"⟩, 51) := ⟨⟨by decide +kernel, by decide +kernel⟩, List.mem_of_getElem? (i := 928) (by decide +kernel), List.mem_of_getElem? (i := 1212) (by decide +kernel), List.mem_of_getElem? (i := 1213) (by decide +kernel)⟩
theorem lw_p66 : lw_okq (⟨"CycleSynthesisModel", "assignment", "()V"⟩, 51) := ⟨⟨by decide +kernel, by decide +kernel⟩, List.mem_of_getElem? (i := 928) (by decide +kernel), List.mem_of_getElem? (i := 1219) (by decide +kernel), List.mem_of_getElem? (i := 1220) (by decide +kernel)⟩
theorem lw_p67 : lw_okq (⟨"CycleSynthesisModel", "want", "(I)V"⟩, 51) := ⟨⟨by decide +kernel, by decide +kernel⟩, List.mem_of_getElem? (i := 928) (by decide +kernel), List.mem_of_getElem? (i := 1223) (by decide +kernel), List.mem_of_getElem? (i := 1224) (by decide +kernel)⟩
theorem lw_p68 : lw_okq (⟨"CycleSynthesisModel", "fail", "(II)V"⟩, 51) := ⟨⟨by decide +kernel, by decide +kernel⟩, List.mem_of_getElem? (i := 928) (by decide +kernel), List.mem_of_getElem? (i := 1227) (by decide +kernel), List.mem_of_getElem? (i := 1228) (by decide +kernel)⟩
theorem lw_p69 : lw_okq (⟨"CycleSynthesisModel", "expression", "()V"⟩, 51) := ⟨⟨by decide +kernel, by decide +kernel⟩, List.mem_of_getElem? (i := 928) (by decide +kernel), List.mem_of_getElem? (i := 1231) (by decide +kernel), List.mem_of_getElem? (i := 1232) (by decide +kernel)⟩
theorem lw_p70 : lw_okq (⟨"CycleSynthesisModel", "sum", "()V"⟩, 51) := ⟨⟨by decide +kernel, by decide +kernel⟩, List.mem_of_getElem? (i := 928) (by decide +kernel), List.mem_of_getElem? (i := 1235) (by decide +kernel), List.mem_of_getElem? (i := 1236) (by decide +kernel)⟩
theorem lw_p71 : lw_okq (⟨"CycleSynthesisModel", "term", "()V"⟩, 51) := ⟨⟨by decide +kernel, by decide +kernel⟩, List.mem_of_getElem? (i := 928) (by decide +kernel), List.mem_of_getElem? (i := 1239) (by decide +kernel), List.mem_of_getElem? (i := 1240) (by decide +kernel)⟩
theorem lw_p72 : lw_okq (⟨"CycleSynthesisModel", "factor", "()V"⟩, 51) := ⟨⟨by decide +kernel, by decide +kernel⟩, List.mem_of_getElem? (i := 928) (by decide +kernel), List.mem_of_getElem? (i := 1243) (by decide +kernel), List.mem_of_getElem? (i := 1244) (by decide +kernel)⟩
theorem lw_p73 : lw_okq (⟨"CycleSynthesisModel", "number", "()V"⟩, 51) := ⟨⟨by decide +kernel, by decide +kernel⟩, List.mem_of_getElem? (i := 928) (by decide +kernel), List.mem_of_getElem? (i := 1250) (by decide +kernel), List.mem_of_getElem? (i := 1251) (by decide +kernel)⟩
theorem lw_p74 : lw_okq (⟨"CycleSynthesisModel", "open", "()V"⟩, 51) := ⟨⟨by decide +kernel, by decide +kernel⟩, List.mem_of_getElem? (i := 928) (by decide +kernel), List.mem_of_getElem? (i := 1258) (by decide +kernel), List.mem_of_getElem? (i := 1259) (by decide +kernel)⟩
theorem lw_p75 : lw_okq (⟨"CycleSynthesisModel", "emit", "(IIII)I"⟩, 51) := ⟨⟨by decide +kernel, by decide +kernel⟩, List.mem_of_getElem? (i := 928) (by decide +kernel), List.mem_of_getElem? (i := 1262) (by decide +kernel), List.mem_of_getElem? (i := 1263) (by decide +kernel)⟩
theorem lw_p76 : lw_okq (⟨"CycleSynthesisModel", "needBlock", "()V"⟩, 51) := ⟨⟨by decide +kernel, by decide +kernel⟩, List.mem_of_getElem? (i := 928) (by decide +kernel), List.mem_of_getElem? (i := 1266) (by decide +kernel), List.mem_of_getElem? (i := 1267) (by decide +kernel)⟩
theorem lw_p77 : lw_okq (⟨"CycleSynthesisModel", "lead", "(II)V"⟩, 51) := ⟨⟨by decide +kernel, by decide +kernel⟩, List.mem_of_getElem? (i := 928) (by decide +kernel), List.mem_of_getElem? (i := 1270) (by decide +kernel), List.mem_of_getElem? (i := 1271) (by decide +kernel)⟩
theorem lw_p78 : lw_okq (⟨"CycleSynthesisModel", "join", "(IIII)V"⟩, 51) := ⟨⟨by decide +kernel, by decide +kernel⟩, List.mem_of_getElem? (i := 928) (by decide +kernel), List.mem_of_getElem? (i := 1274) (by decide +kernel), List.mem_of_getElem? (i := 1275) (by decide +kernel)⟩
theorem lw_p79 : lw_okq (⟨"CycleSynthesisModel", "writing", "()V"⟩, 51) := ⟨⟨by decide +kernel, by decide +kernel⟩, List.mem_of_getElem? (i := 928) (by decide +kernel), List.mem_of_getElem? (i := 1278) (by decide +kernel), List.mem_of_getElem? (i := 1279) (by decide +kernel)⟩
def lw_privs_5 : List (MethodName × Nat) := [(⟨"CycleSynthesisModel", "word", "()I"⟩, 51), (⟨"CycleSynthesisModel", "wordSize", "(I)I"⟩, 51), (⟨"CycleSynthesisModel", "assignment", "()V"⟩, 51), (⟨"CycleSynthesisModel", "want", "(I)V"⟩, 51), (⟨"CycleSynthesisModel", "fail", "(II)V"⟩, 51), (⟨"CycleSynthesisModel", "expression", "()V"⟩, 51), (⟨"CycleSynthesisModel", "sum", "()V"⟩, 51), (⟨"CycleSynthesisModel", "term", "()V"⟩, 51), (⟨"CycleSynthesisModel", "factor", "()V"⟩, 51), (⟨"CycleSynthesisModel", "number", "()V"⟩, 51), (⟨"CycleSynthesisModel", "open", "()V"⟩, 51), (⟨"CycleSynthesisModel", "emit", "(IIII)I"⟩, 51), (⟨"CycleSynthesisModel", "needBlock", "()V"⟩, 51), (⟨"CycleSynthesisModel", "lead", "(II)V"⟩, 51), (⟨"CycleSynthesisModel", "join", "(IIII)V"⟩, 51), (⟨"CycleSynthesisModel", "writing", "()V"⟩, 51)]
theorem lw_r5 : ∀ q ∈ lw_privs_5, lw_okq q := List.forall_mem_cons.mpr ⟨lw_p64, List.forall_mem_cons.mpr ⟨lw_p65, List.forall_mem_cons.mpr ⟨lw_p66, List.forall_mem_cons.mpr ⟨lw_p67, List.forall_mem_cons.mpr ⟨lw_p68, List.forall_mem_cons.mpr ⟨lw_p69, List.forall_mem_cons.mpr ⟨lw_p70, List.forall_mem_cons.mpr ⟨lw_p71, List.forall_mem_cons.mpr ⟨lw_p72, List.forall_mem_cons.mpr ⟨lw_p73, List.forall_mem_cons.mpr ⟨lw_p74, List.forall_mem_cons.mpr ⟨lw_p75, List.forall_mem_cons.mpr ⟨lw_p76, List.forall_mem_cons.mpr ⟨lw_p77, List.forall_mem_cons.mpr ⟨lw_p78, List.forall_mem_cons.mpr ⟨lw_p79, fun _ h => absurd h List.not_mem_nil⟩⟩⟩⟩⟩⟩⟩⟩⟩⟩⟩⟩⟩⟩⟩⟩
theorem lw_p80 : lw_okq (⟨"CycleSynthesisModel", "choice", "()V"⟩, 51) := ⟨⟨by decide +kernel, by decide +kernel⟩, List.mem_of_getElem? (i := 928) (by decide +kernel), List.mem_of_getElem? (i := 1282) (by decide +kernel), List.mem_of_getElem? (i := 1283) (by decide +kernel)⟩
theorem lw_p81 : lw_okq (⟨"CycleSynthesisModel", "endBlock", "()I"⟩, 51) := ⟨⟨by decide +kernel, by decide +kernel⟩, List.mem_of_getElem? (i := 928) (by decide +kernel), List.mem_of_getElem? (i := 1286) (by decide +kernel), List.mem_of_getElem? (i := 1287) (by decide +kernel)⟩
theorem lw_p82 : lw_okq (⟨"CycleSynthesisModel", "way", "(IZ)V"⟩, 51) := ⟨⟨by decide +kernel, by decide +kernel⟩, List.mem_of_getElem? (i := 928) (by decide +kernel), List.mem_of_getElem? (i := 1290) (by decide +kernel), List.mem_of_getElem? (i := 1291) (by decide +kernel)⟩
theorem lw_p83 : lw_okq (⟨"CycleSynthesisModel", "inBraces", "()V"⟩, 51) := ⟨⟨by decide +kernel, by decide +kernel⟩, List.mem_of_getElem? (i := 928) (by decide +kernel), List.mem_of_getElem? (i := 1294) (by decide +kernel), List.mem_of_getElem? (i := 1295) (by decide +kernel)⟩
theorem lw_p84 : lw_okq (⟨"CycleSynthesisModel", "leaveOpen", "()V"⟩, 51) := ⟨⟨by decide +kernel, by decide +kernel⟩, List.mem_of_getElem? (i := 928) (by decide +kernel), List.mem_of_getElem? (i := 1298) (by decide +kernel), List.mem_of_getElem? (i := 1299) (by decide +kernel)⟩
theorem lw_p85 : lw_okq (⟨"CycleSynthesisModel", "loop", "()V"⟩, 51) := ⟨⟨by decide +kernel, by decide +kernel⟩, List.mem_of_getElem? (i := 928) (by decide +kernel), List.mem_of_getElem? (i := 1302) (by decide +kernel), List.mem_of_getElem? (i := 1303) (by decide +kernel)⟩
theorem lw_p86 : lw_okq (⟨"CycleSynthesisModel", "doOperation", "(I)V"⟩, 51) := ⟨⟨by decide +kernel, by decide +kernel⟩, List.mem_of_getElem? (i := 928) (by decide +kernel), List.mem_of_getElem? (i := 1354) (by decide +kernel), List.mem_of_getElem? (i := 1355) (by decide +kernel)⟩
theorem lw_p87 : lw_okq (⟨"CycleSynthesisModel", "look", "(II)I"⟩, 51) := ⟨⟨by decide +kernel, by decide +kernel⟩, List.mem_of_getElem? (i := 928) (by decide +kernel), List.mem_of_getElem? (i := 1358) (by decide +kernel), List.mem_of_getElem? (i := 1359) (by decide +kernel)⟩
def lw_privs_6 : List (MethodName × Nat) := [(⟨"CycleSynthesisModel", "choice", "()V"⟩, 51), (⟨"CycleSynthesisModel", "endBlock", "()I"⟩, 51), (⟨"CycleSynthesisModel", "way", "(IZ)V"⟩, 51), (⟨"CycleSynthesisModel", "inBraces", "()V"⟩, 51), (⟨"CycleSynthesisModel", "leaveOpen", "()V"⟩, 51), (⟨"CycleSynthesisModel", "loop", "()V"⟩, 51), (⟨"CycleSynthesisModel", "doOperation", "(I)V"⟩, 51), (⟨"CycleSynthesisModel", "look", "(II)I"⟩, 51)]
theorem lw_r6 : ∀ q ∈ lw_privs_6, lw_okq q := List.forall_mem_cons.mpr ⟨lw_p80, List.forall_mem_cons.mpr ⟨lw_p81, List.forall_mem_cons.mpr ⟨lw_p82, List.forall_mem_cons.mpr ⟨lw_p83, List.forall_mem_cons.mpr ⟨lw_p84, List.forall_mem_cons.mpr ⟨lw_p85, List.forall_mem_cons.mpr ⟨lw_p86, List.forall_mem_cons.mpr ⟨lw_p87, fun _ h => absurd h List.not_mem_nil⟩⟩⟩⟩⟩⟩⟩⟩
def lw_privs : List (MethodName × Nat) := lw_privs_1 ++ (lw_privs_2 ++ (lw_privs_3 ++ (lw_privs_4 ++ (lw_privs_5 ++ (lw_privs_6)))))
def lw_tbl : List Cond := k2_sels lw_privs ++ tables_1
theorem lw_privs_ok : ∀ q ∈ lw_privs, lw_okq q := by
  show ∀ q ∈ lw_privs_1 ++ (lw_privs_2 ++ (lw_privs_3 ++ (lw_privs_4 ++ (lw_privs_5 ++ (lw_privs_6))))), lw_okq q
  exact List.forall_mem_append.mpr ⟨lw_r1, List.forall_mem_append.mpr ⟨lw_r2, List.forall_mem_append.mpr ⟨lw_r3, List.forall_mem_append.mpr ⟨lw_r4, List.forall_mem_append.mpr ⟨lw_r5, lw_r6⟩⟩⟩⟩⟩
-- printed names: classes, fields, codes, methods
def RX0 : String := "CycleSynthesis$Block"
def TX0 : u_T := fun k => match k with
  | 0 => ("CycleSynthesis$Block", "first", "I", false)
  | 1 => ("CycleSynthesis$Block", "many", "I", false)
  | 2 => ("CycleSynthesis$Block", "chooses", "Z", false)
  | 3 => ("CycleSynthesis$Block", "choice", "I", false)
  | 4 => ("CycleSynthesis$Block", "so", "I", false)
  | 5 => ("CycleSynthesis$Block", "otherwise", "I", false)
  | _ => ("CycleSynthesis$Block", "cycles", "I", false)
def tyX0 : Nat → FieldType := fun k => match k with
  | 0 => .int
  | 1 => .int
  | 2 => .boolean
  | 3 => .int
  | 4 => .int
  | 5 => .int
  | _ => .int
abbrev wsX00 : List Cond := u_ws RX0 TX0 7
theorem nmX0 : ∀ a, a < 7 → ∀ b, b < 7 → a ≠ b → (TX0 a).2.1 ≠ (TX0 b).2.1 := by decide +kernel
theorem tyX0_ok : ∀ k, k < 7 → parseFieldDescriptor (TX0 k).2.2.1 = some (tyX0 k) := by decide +kernel
abbrev cX0_init : ByteArray := prog_2_method_1_code
def yX0_init : MethodName := ⟨RX0, "<init>", "()V"⟩
abbrev cX0_become : ByteArray := prog_2_method_2_code
def yX0_become : MethodName := ⟨RX0, "become", "(I)V"⟩
def RX1 : String := "CycleSynthesis$Layer"
def TX1 : u_T := fun k => match k with
  | 0 => ("CycleSynthesis$Layer", "many", "[I", true)
  | 1 => ("CycleSynthesis$Layer", "latency", "[I", true)
  | 2 => ("CycleSynthesis$Layer", "unitFreeFrom", "[I", true)
  | 3 => ("CycleSynthesis$Layer", "registerHeldTo", "[I", true)
  | 4 => ("CycleSynthesis$Layer", "ranked", "[LCycleSynthesis$Operation;", true)
  | _ => ("CycleSynthesis$Layer", "movesBegun", "I", false)
def tyX1 : Nat → FieldType := fun k => match k with
  | 0 => .array .int
  | 1 => .array .int
  | 2 => .array .int
  | 3 => .array .int
  | 4 => .array (.object "CycleSynthesis$Operation")
  | _ => .int
abbrev wsX10 : List Cond := u_ws RX1 TX1 6
theorem nmX1 : ∀ a, a < 6 → ∀ b, b < 6 → a ≠ b → (TX1 a).2.1 ≠ (TX1 b).2.1 := by decide +kernel
theorem tyX1_ok : ∀ k, k < 6 → parseFieldDescriptor (TX1 k).2.2.1 = some (tyX1 k) := by decide +kernel
abbrev cX1_init : ByteArray := prog_3_method_1_code
def yX1_init : MethodName := ⟨RX1, "<init>", "()V"⟩
abbrev cX1_allows : ByteArray := prog_3_method_2_code
def yX1_allows : MethodName := ⟨RX1, "allows", "(III)Z"⟩
abbrev cX1_supply : ByteArray := prog_3_method_3_code
def yX1_supply : MethodName := ⟨RX1, "supply", "(III)V"⟩
abbrev cX1_lay : ByteArray := prog_3_method_4_code
def yX1_lay : MethodName := ⟨RX1, "lay", "(LCycleSynthesis$Program;)V"⟩
abbrev cX1_prepare : ByteArray := prog_3_method_5_code
def yX1_prepare : MethodName := ⟨RX1, "prepare", "(LCycleSynthesis$Program;LCycleSynthesis$Block;)V"⟩
abbrev cX1_measureHeights : ByteArray := prog_3_method_6_code
def yX1_measureHeights : MethodName := ⟨RX1, "measureHeights", "(LCycleSynthesis$Program;LCycleSynthesis$Block;)V"⟩
abbrev cX1_rank : ByteArray := prog_3_method_7_code
def yX1_rank : MethodName := ⟨RX1, "rank", "(LCycleSynthesis$Program;LCycleSynthesis$Block;)V"⟩
abbrev cX1_beginAll : ByteArray := prog_3_method_8_code
def yX1_beginAll : MethodName := ⟨RX1, "beginAll", "(LCycleSynthesis$Program;LCycleSynthesis$Block;)V"⟩
abbrev cX1_begins : ByteArray := prog_3_method_9_code
def yX1_begins : MethodName := ⟨RX1, "begins", "(LCycleSynthesis$Operation;I)Z"⟩
abbrev cX1_freeUnit : ByteArray := prog_3_method_10_code
def yX1_freeUnit : MethodName := ⟨RX1, "freeUnit", "(II)I"⟩
abbrev cX1_tellThoseBehind : ByteArray := prog_3_method_11_code
def yX1_tellThoseBehind : MethodName := ⟨RX1, "tellThoseBehind", "(LCycleSynthesis$Program;LCycleSynthesis$Block;LCycleSynthesis$Operation;)V"⟩
abbrev cX1_noteUses : ByteArray := prog_3_method_12_code
def yX1_noteUses : MethodName := ⟨RX1, "noteUses", "(LCycleSynthesis$Program;LCycleSynthesis$Block;)V"⟩
abbrev cX1_noteUse : ByteArray := prog_3_method_13_code
def yX1_noteUse : MethodName := ⟨RX1, "noteUse", "(LCycleSynthesis$Program;II)V"⟩
abbrev cX1_bindRegisters : ByteArray := prog_3_method_14_code
def yX1_bindRegisters : MethodName := ⟨RX1, "bindRegisters", "(LCycleSynthesis$Program;LCycleSynthesis$Block;)V"⟩
abbrev cX1_freeRegister : ByteArray := prog_3_method_15_code
def yX1_freeRegister : MethodName := ⟨RX1, "freeRegister", "(II)I"⟩
def RX2 : String := "CycleSynthesis$Machine"
def TX2 : u_T := fun k => match k with
  | 0 => ("CycleSynthesis$Machine", "variables", "[I", true)
  | 1 => ("CycleSynthesis$Machine", "cells", "[I", true)
  | 2 => ("CycleSynthesis$Machine", "values", "[I", true)
  | 3 => ("CycleSynthesis$Machine", "program", "LCycleSynthesis$Program;", false)
  | 4 => ("CycleSynthesis$Machine", "next", "I", false)
  | _ => ("CycleSynthesis$Machine", "done", "J", false)
def tyX2 : Nat → FieldType := fun k => match k with
  | 0 => .array .int
  | 1 => .array .int
  | 2 => .array .int
  | 3 => .object "CycleSynthesis$Program"
  | 4 => .int
  | _ => .long
abbrev wsX20 : List Cond := u_ws RX2 TX2 6
theorem nmX2 : ∀ a, a < 6 → ∀ b, b < 6 → a ≠ b → (TX2 a).2.1 ≠ (TX2 b).2.1 := by decide +kernel
theorem tyX2_ok : ∀ k, k < 6 → parseFieldDescriptor (TX2 k).2.2.1 = some (tyX2 k) := by decide +kernel
abbrev cX2_init : ByteArray := prog_4_method_1_code
def yX2_init : MethodName := ⟨RX2, "<init>", "()V"⟩
abbrev cX2_begin : ByteArray := prog_4_method_2_code
def yX2_begin : MethodName := ⟨RX2, "begin", "(LCycleSynthesis$Program;)V"⟩
abbrev cX2_advance : ByteArray := prog_4_method_3_code
def yX2_advance : MethodName := ⟨RX2, "advance", "(I)I"⟩
abbrev cX2_perform : ByteArray := prog_4_method_4_code
def yX2_perform : MethodName := ⟨RX2, "perform", "(LCycleSynthesis$Block;)V"⟩
abbrev cX2_outcome : ByteArray := prog_4_method_5_code
def yX2_outcome : MethodName := ⟨RX2, "outcome", "(LCycleSynthesis$Operation;)I"⟩
abbrev cX2_taken : ByteArray := prog_4_method_6_code
def yX2_taken : MethodName := ⟨RX2, "taken", "(I)I"⟩
def RX3 : String := "CycleSynthesis$Operand"
def TX3 : u_T := fun k => match k with
  | _ => ("", "", "", false)
def tyX3 : Nat → FieldType := fun k => match k with
  | _ => .int
abbrev wsX30 : List Cond := u_ws RX3 TX3 0
theorem nmX3 : ∀ a, a < 0 → ∀ b, b < 0 → a ≠ b → (TX3 a).2.1 ≠ (TX3 b).2.1 := by decide +kernel
theorem tyX3_ok : ∀ k, k < 0 → parseFieldDescriptor (TX3 k).2.2.1 = some (tyX3 k) := by decide +kernel
abbrev cX3_ofVariable : ByteArray := prog_5_method_2_code
def yX3_ofVariable : MethodName := ⟨RX3, "ofVariable", "(I)I"⟩
abbrev cX3_ofValue : ByteArray := prog_5_method_3_code
def yX3_ofValue : MethodName := ⟨RX3, "ofValue", "(I)I"⟩
abbrev cX3_isNumber : ByteArray := prog_5_method_4_code
def yX3_isNumber : MethodName := ⟨RX3, "isNumber", "(I)Z"⟩
abbrev cX3_isValue : ByteArray := prog_5_method_5_code
def yX3_isValue : MethodName := ⟨RX3, "isValue", "(I)Z"⟩
abbrev cX3_variableOf : ByteArray := prog_5_method_6_code
def yX3_variableOf : MethodName := ⟨RX3, "variableOf", "(I)I"⟩
abbrev cX3_operationOf : ByteArray := prog_5_method_7_code
def yX3_operationOf : MethodName := ⟨RX3, "operationOf", "(I)I"⟩
def RX4 : String := "CycleSynthesis$Operation"
def TX4 : u_T := fun k => match k with
  | 0 => ("CycleSynthesis$Operation", "number", "I", false)
  | 1 => ("CycleSynthesis$Operation", "sign", "I", false)
  | 2 => ("CycleSynthesis$Operation", "kind", "I", false)
  | 3 => ("CycleSynthesis$Operation", "left", "I", false)
  | 4 => ("CycleSynthesis$Operation", "right", "I", false)
  | 5 => ("CycleSynthesis$Operation", "gives", "I", false)
  | 6 => ("CycleSynthesis$Operation", "block", "I", false)
  | 7 => ("CycleSynthesis$Operation", "latency", "I", false)
  | 8 => ("CycleSynthesis$Operation", "height", "I", false)
  | 9 => ("CycleSynthesis$Operation", "begin", "I", false)
  | 10 => ("CycleSynthesis$Operation", "unit", "I", false)
  | 11 => ("CycleSynthesis$Operation", "register", "I", false)
  | 12 => ("CycleSynthesis$Operation", "unbegun", "I", false)
  | 13 => ("CycleSynthesis$Operation", "ready", "I", false)
  | _ => ("CycleSynthesis$Operation", "lastUse", "I", false)
def tyX4 : Nat → FieldType := fun k => match k with
  | 0 => .int
  | 1 => .int
  | 2 => .int
  | 3 => .int
  | 4 => .int
  | 5 => .int
  | 6 => .int
  | 7 => .int
  | 8 => .int
  | 9 => .int
  | 10 => .int
  | 11 => .int
  | 12 => .int
  | 13 => .int
  | _ => .int
abbrev wsX40 : List Cond := u_ws RX4 TX4 15
theorem nmX4 : ∀ a, a < 15 → ∀ b, b < 15 → a ≠ b → (TX4 a).2.1 ≠ (TX4 b).2.1 := by decide +kernel
theorem tyX4_ok : ∀ k, k < 15 → parseFieldDescriptor (TX4 k).2.2.1 = some (tyX4 k) := by decide +kernel
abbrev cX4_init : ByteArray := prog_6_method_1_code
def yX4_init : MethodName := ⟨RX4, "<init>", "()V"⟩
abbrev cX4_become : ByteArray := prog_6_method_2_code
def yX4_become : MethodName := ⟨RX4, "become", "(III)V"⟩
abbrev cX4_hasBegun : ByteArray := prog_6_method_3_code
def yX4_hasBegun : MethodName := ⟨RX4, "hasBegun", "()Z"⟩
abbrev cX4_end : ByteArray := prog_6_method_4_code
def yX4_end : MethodName := ⟨RX4, "end", "()I"⟩
abbrev cX4_fillsRegister : ByteArray := prog_6_method_5_code
def yX4_fillsRegister : MethodName := ⟨RX4, "fillsRegister", "()Z"⟩
abbrev cX4_comesBehind : ByteArray := prog_6_method_6_code
def yX4_comesBehind : MethodName := ⟨RX4, "comesBehind", "(LCycleSynthesis$Operation;)Z"⟩
abbrev cX4_touchesGiven : ByteArray := prog_6_method_7_code
def yX4_touchesGiven : MethodName := ⟨RX4, "touchesGiven", "(LCycleSynthesis$Operation;)Z"⟩
abbrev cX4_usesGiven : ByteArray := prog_6_method_8_code
def yX4_usesGiven : MethodName := ⟨RX4, "usesGiven", "(LCycleSynthesis$Operation;)Z"⟩
abbrev cX4_uses : ByteArray := prog_6_method_9_code
def yX4_uses : MethodName := ⟨RX4, "uses", "(I)Z"⟩
abbrev cX4_kindOf : ByteArray := prog_6_method_10_code
def yX4_kindOf : MethodName := ⟨RX4, "kindOf", "(I)I"⟩
def RX5 : String := "CycleSynthesis$Program"
def TX5 : u_T := fun k => match k with
  | 0 => ("CycleSynthesis$Program", "operation", "[LCycleSynthesis$Operation;", true)
  | 1 => ("CycleSynthesis$Program", "block", "[LCycleSynthesis$Block;", true)
  | 2 => ("CycleSynthesis$Program", "operations", "I", false)
  | _ => ("CycleSynthesis$Program", "blocks", "I", false)
def tyX5 : Nat → FieldType := fun k => match k with
  | 0 => .array (.object "CycleSynthesis$Operation")
  | 1 => .array (.object "CycleSynthesis$Block")
  | 2 => .int
  | _ => .int
abbrev wsX50 : List Cond := u_ws RX5 TX5 4
theorem nmX5 : ∀ a, a < 4 → ∀ b, b < 4 → a ≠ b → (TX5 a).2.1 ≠ (TX5 b).2.1 := by decide +kernel
theorem tyX5_ok : ∀ k, k < 4 → parseFieldDescriptor (TX5 k).2.2.1 = some (tyX5 k) := by decide +kernel
abbrev cX5_init : ByteArray := prog_7_method_1_code
def yX5_init : MethodName := ⟨RX5, "<init>", "()V"⟩
abbrev cX5_clear : ByteArray := prog_7_method_2_code
def yX5_clear : MethodName := ⟨RX5, "clear", "()V"⟩
abbrev cX5_isFull : ByteArray := prog_7_method_3_code
def yX5_isFull : MethodName := ⟨RX5, "isFull", "()Z"⟩
abbrev cX5_addBlock : ByteArray := prog_7_method_4_code
def yX5_addBlock : MethodName := ⟨RX5, "addBlock", "()LCycleSynthesis$Block;"⟩
abbrev cX5_addOperation : ByteArray := prog_7_method_5_code
def yX5_addOperation : MethodName := ⟨RX5, "addOperation", "(III)LCycleSynthesis$Operation;"⟩
abbrev cX5_allCycles : ByteArray := prog_7_method_6_code
def yX5_allCycles : MethodName := ⟨RX5, "allCycles", "()I"⟩
abbrev cX5_usedRegisters : ByteArray := prog_7_method_7_code
def yX5_usedRegisters : MethodName := ⟨RX5, "usedRegisters", "()I"⟩
abbrev cX5_usedUnits : ByteArray := prog_7_method_8_code
def yX5_usedUnits : MethodName := ⟨RX5, "usedUnits", "(I)I"⟩
def RX6 : String := "CycleSynthesis$Reader"
def TX6 : u_T := fun k => match k with
  | 0 => ("CycleSynthesis$Reader", "tape", "LCycleSynthesis$Tape;", true)
  | _ => ("CycleSynthesis$Reader", "place", "I", false)
def tyX6 : Nat → FieldType := fun k => match k with
  | 0 => .object "CycleSynthesis$Tape"
  | _ => .int
abbrev wsX60 : List Cond := u_ws RX6 TX6 2
theorem nmX6 : ∀ a, a < 2 → ∀ b, b < 2 → a ≠ b → (TX6 a).2.1 ≠ (TX6 b).2.1 := by decide +kernel
theorem tyX6_ok : ∀ k, k < 2 → parseFieldDescriptor (TX6 k).2.2.1 = some (tyX6 k) := by decide +kernel
abbrev cX6_init : ByteArray := prog_8_method_1_code
def yX6_init : MethodName := ⟨RX6, "<init>", "(LCycleSynthesis$Tape;)V"⟩
abbrev cX6_rewind : ByteArray := prog_8_method_2_code
def yX6_rewind : MethodName := ⟨RX6, "rewind", "()V"⟩
abbrev cX6_look : ByteArray := prog_8_method_3_code
def yX6_look : MethodName := ⟨RX6, "look", "()I"⟩
abbrev cX6_pass : ByteArray := prog_8_method_4_code
def yX6_pass : MethodName := ⟨RX6, "pass", "(I)V"⟩
abbrev cX6_seesWord : ByteArray := prog_8_method_5_code
def yX6_seesWord : MethodName := ⟨RX6, "seesWord", "(Ljava/lang/String;)Z"⟩
abbrev cX6_seenVariable : ByteArray := prog_8_method_6_code
def yX6_seenVariable : MethodName := ⟨RX6, "seenVariable", "()I"⟩
abbrev cX6_seesFigure : ByteArray := prog_8_method_7_code
def yX6_seesFigure : MethodName := ⟨RX6, "seesFigure", "()Z"⟩
abbrev cX6_seesLetter : ByteArray := prog_8_method_8_code
def yX6_seesLetter : MethodName := ⟨RX6, "seesLetter", "()Z"⟩
abbrev cX6_readNumber : ByteArray := prog_8_method_9_code
def yX6_readNumber : MethodName := ⟨RX6, "readNumber", "()J"⟩
abbrev cX6_lettersHere : ByteArray := prog_8_method_10_code
def yX6_lettersHere : MethodName := ⟨RX6, "lettersHere", "()I"⟩
abbrev cX6_isFigure : ByteArray := prog_8_method_11_code
def yX6_isFigure : MethodName := ⟨RX6, "isFigure", "(I)Z"⟩
abbrev cX6_isLetter : ByteArray := prog_8_method_12_code
def yX6_isLetter : MethodName := ⟨RX6, "isLetter", "(I)Z"⟩
def RX7 : String := "CycleSynthesis$Tape"
def TX7 : u_T := fun k => match k with
  | 0 => ("CycleSynthesis$Tape", "bytes", "[I", true)
  | _ => ("CycleSynthesis$Tape", "length", "I", false)
def tyX7 : Nat → FieldType := fun k => match k with
  | 0 => .array .int
  | _ => .int
abbrev wsX70 : List Cond := u_ws RX7 TX7 2
theorem nmX7 : ∀ a, a < 2 → ∀ b, b < 2 → a ≠ b → (TX7 a).2.1 ≠ (TX7 b).2.1 := by decide +kernel
theorem tyX7_ok : ∀ k, k < 2 → parseFieldDescriptor (TX7 k).2.2.1 = some (tyX7 k) := by decide +kernel
abbrev cX7_init : ByteArray := prog_9_method_1_code
def yX7_init : MethodName := ⟨RX7, "<init>", "()V"⟩
abbrev cX7_append : ByteArray := prog_9_method_2_code
def yX7_append : MethodName := ⟨RX7, "append", "(IJ)Z"⟩
abbrev cX7_clear : ByteArray := prog_9_method_3_code
def yX7_clear : MethodName := ⟨RX7, "clear", "()I"⟩
def RX8 : String := "CycleSynthesis$Translator"
def TX8 : u_T := fun k => match k with
  | 0 => ("CycleSynthesis$Translator", "reader", "LCycleSynthesis$Reader;", true)
  | 1 => ("CycleSynthesis$Translator", "ways", "LCycleSynthesis$Ways;", true)
  | 2 => ("CycleSynthesis$Translator", "program", "LCycleSynthesis$Program;", false)
  | 3 => ("CycleSynthesis$Translator", "braces", "I", false)
  | 4 => ("CycleSynthesis$Translator", "brackets", "I", false)
  | 5 => ("CycleSynthesis$Translator", "fault", "I", false)
  | _ => ("CycleSynthesis$Translator", "place", "I", false)
def tyX8 : Nat → FieldType := fun k => match k with
  | 0 => .object "CycleSynthesis$Reader"
  | 1 => .object "CycleSynthesis$Ways"
  | 2 => .object "CycleSynthesis$Program"
  | 3 => .int
  | 4 => .int
  | 5 => .int
  | _ => .int
abbrev wsX80 : List Cond := u_ws RX8 TX8 7
theorem nmX8 : ∀ a, a < 7 → ∀ b, b < 7 → a ≠ b → (TX8 a).2.1 ≠ (TX8 b).2.1 := by decide +kernel
theorem tyX8_ok : ∀ k, k < 7 → parseFieldDescriptor (TX8 k).2.2.1 = some (tyX8 k) := by decide +kernel
abbrev cX8_init : ByteArray := prog_10_method_1_code
def yX8_init : MethodName := ⟨RX8, "<init>", "(LCycleSynthesis$Tape;)V"⟩
abbrev cX8_translate : ByteArray := prog_10_method_2_code
def yX8_translate : MethodName := ⟨RX8, "translate", "(LCycleSynthesis$Program;)Z"⟩
abbrev cX8_statements : ByteArray := prog_10_method_3_code
def yX8_statements : MethodName := ⟨RX8, "statements", "()Z"⟩
abbrev cX8_statement : ByteArray := prog_10_method_4_code
def yX8_statement : MethodName := ⟨RX8, "statement", "()Z"⟩
abbrev cX8_assignment : ByteArray := prog_10_method_5_code
def yX8_assignment : MethodName := ⟨RX8, "assignment", "(I)Z"⟩
abbrev cX8_write : ByteArray := prog_10_method_6_code
def yX8_write : MethodName := ⟨RX8, "write", "()Z"⟩
abbrev cX8_ifStatement : ByteArray := prog_10_method_7_code
def yX8_ifStatement : MethodName := ⟨RX8, "ifStatement", "()Z"⟩
abbrev cX8_whileStatement : ByteArray := prog_10_method_8_code
def yX8_whileStatement : MethodName := ⟨RX8, "whileStatement", "()Z"⟩
abbrev cX8_choice : ByteArray := prog_10_method_9_code
def yX8_choice : MethodName := ⟨RX8, "choice", "(II)Z"⟩
abbrev cX8_body : ByteArray := prog_10_method_10_code
def yX8_body : MethodName := ⟨RX8, "body", "(I)Z"⟩
abbrev cX8_expression : ByteArray := prog_10_method_11_code
def yX8_expression : MethodName := ⟨RX8, "expression", "()I"⟩
abbrev cX8_sum : ByteArray := prog_10_method_12_code
def yX8_sum : MethodName := ⟨RX8, "sum", "()I"⟩
abbrev cX8_term : ByteArray := prog_10_method_13_code
def yX8_term : MethodName := ⟨RX8, "term", "()I"⟩
abbrev cX8_factor : ByteArray := prog_10_method_14_code
def yX8_factor : MethodName := ⟨RX8, "factor", "()I"⟩
abbrev cX8_number : ByteArray := prog_10_method_15_code
def yX8_number : MethodName := ⟨RX8, "number", "()I"⟩
abbrev cX8_read : ByteArray := prog_10_method_16_code
def yX8_read : MethodName := ⟨RX8, "read", "()I"⟩
abbrev cX8_enclosed : ByteArray := prog_10_method_17_code
def yX8_enclosed : MethodName := ⟨RX8, "enclosed", "(II)I"⟩
abbrev cX8_add : ByteArray := prog_10_method_18_code
def yX8_add : MethodName := ⟨RX8, "add", "(IIII)I"⟩
abbrev cX8_meets : ByteArray := prog_10_method_19_code
def yX8_meets : MethodName := ⟨RX8, "meets", "(I)Z"⟩
abbrev cX8_passes : ByteArray := prog_10_method_20_code
def yX8_passes : MethodName := ⟨RX8, "passes", "(I)Z"⟩
abbrev cX8_refuseHere : ByteArray := prog_10_method_21_code
def yX8_refuseHere : MethodName := ⟨RX8, "refuseHere", "(I)Z"⟩
abbrev cX8_refuse : ByteArray := prog_10_method_22_code
def yX8_refuse : MethodName := ⟨RX8, "refuse", "(II)Z"⟩
def RX9 : String := "CycleSynthesis$Ways"
def TX9 : u_T := fun k => match k with
  | 0 => ("CycleSynthesis$Ways", "begins", "[I", true)
  | 1 => ("CycleSynthesis$Ways", "onward", "[I", true)
  | 2 => ("CycleSynthesis$Ways", "joints", "I", false)
  | 3 => ("CycleSynthesis$Ways", "program", "LCycleSynthesis$Program;", false)
  | 4 => ("CycleSynthesis$Ways", "open", "LCycleSynthesis$Block;", false)
  | _ => ("CycleSynthesis$Ways", "here", "I", false)
def tyX9 : Nat → FieldType := fun k => match k with
  | 0 => .array .int
  | 1 => .array .int
  | 2 => .int
  | 3 => .object "CycleSynthesis$Program"
  | 4 => .object "CycleSynthesis$Block"
  | _ => .int
abbrev wsX90 : List Cond := u_ws RX9 TX9 6
theorem nmX9 : ∀ a, a < 6 → ∀ b, b < 6 → a ≠ b → (TX9 a).2.1 ≠ (TX9 b).2.1 := by decide +kernel
theorem tyX9_ok : ∀ k, k < 6 → parseFieldDescriptor (TX9 k).2.2.1 = some (tyX9 k) := by decide +kernel
abbrev cX9_init : ByteArray := prog_11_method_1_code
def yX9_init : MethodName := ⟨RX9, "<init>", "()V"⟩
abbrev cX9_start : ByteArray := prog_11_method_2_code
def yX9_start : MethodName := ⟨RX9, "start", "(LCycleSynthesis$Program;)V"⟩
abbrev cX9_addJoint : ByteArray := prog_11_method_3_code
def yX9_addJoint : MethodName := ⟨RX9, "addJoint", "()I"⟩
abbrev cX9_standAt : ByteArray := prog_11_method_4_code
def yX9_standAt : MethodName := ⟨RX9, "standAt", "(I)V"⟩
abbrev cX9_openBlock : ByteArray := prog_11_method_5_code
def yX9_openBlock : MethodName := ⟨RX9, "openBlock", "()V"⟩
abbrev cX9_choose : ByteArray := prog_11_method_6_code
def yX9_choose : MethodName := ⟨RX9, "choose", "(III)V"⟩
abbrev cX9_goTo : ByteArray := prog_11_method_7_code
def yX9_goTo : MethodName := ⟨RX9, "goTo", "(I)V"⟩
abbrev cX9_settle : ByteArray := prog_11_method_8_code
def yX9_settle : MethodName := ⟨RX9, "settle", "()V"⟩
abbrev cX9_blockFrom : ByteArray := prog_11_method_9_code
def yX9_blockFrom : MethodName := ⟨RX9, "blockFrom", "(I)I"⟩
def RX10 : String := "CycleSynthesis"
def TX10 : u_T := fun k => match k with
  | 0 => ("CycleSynthesis", "tape", "LCycleSynthesis$Tape;", true)
  | 1 => ("CycleSynthesis", "translator", "LCycleSynthesis$Translator;", true)
  | 2 => ("CycleSynthesis", "layer", "LCycleSynthesis$Layer;", true)
  | 3 => ("CycleSynthesis", "machine", "LCycleSynthesis$Machine;", true)
  | 4 => ("CycleSynthesis", "program", "LCycleSynthesis$Program;", false)
  | _ => ("CycleSynthesis", "spare", "LCycleSynthesis$Program;", false)
def tyX10 : Nat → FieldType := fun k => match k with
  | 0 => .object "CycleSynthesis$Tape"
  | 1 => .object "CycleSynthesis$Translator"
  | 2 => .object "CycleSynthesis$Layer"
  | 3 => .object "CycleSynthesis$Machine"
  | 4 => .object "CycleSynthesis$Program"
  | _ => .object "CycleSynthesis$Program"
abbrev wsX100 : List Cond := u_ws RX10 TX10 6
theorem nmX10 : ∀ a, a < 6 → ∀ b, b < 6 → a ≠ b → (TX10 a).2.1 ≠ (TX10 b).2.1 := by decide +kernel
theorem tyX10_ok : ∀ k, k < 6 → parseFieldDescriptor (TX10 k).2.2.1 = some (tyX10 k) := by decide +kernel
abbrev cX10_init : ByteArray := prog_1_method_1_code
def yX10_init : MethodName := ⟨RX10, "<init>", "()V"⟩
abbrev cX10_feed : ByteArray := prog_1_method_2_code
def yX10_feed : MethodName := ⟨RX10, "feed", "(IJ)I"⟩
abbrev cX10_wipe : ByteArray := prog_1_method_3_code
def yX10_wipe : MethodName := ⟨RX10, "wipe", "()I"⟩
abbrev cX10_units : ByteArray := prog_1_method_4_code
def yX10_units : MethodName := ⟨RX10, "units", "(III)V"⟩
abbrev cX10_compile : ByteArray := prog_1_method_5_code
def yX10_compile : MethodName := ⟨RX10, "compile", "()I"⟩
abbrev cX10_fault : ByteArray := prog_1_method_6_code
def yX10_fault : MethodName := ⟨RX10, "fault", "()I"⟩
abbrev cX10_place : ByteArray := prog_1_method_7_code
def yX10_place : MethodName := ⟨RX10, "place", "()I"⟩
abbrev cX10_told : ByteArray := prog_1_method_8_code
def yX10_told : MethodName := ⟨RX10, "told", "(I)I"⟩
abbrev cX10_block : ByteArray := prog_1_method_9_code
def yX10_block : MethodName := ⟨RX10, "block", "(II)I"⟩
abbrev cX10_operation : ByteArray := prog_1_method_10_code
def yX10_operation : MethodName := ⟨RX10, "operation", "(II)I"⟩
abbrev cX10_set : ByteArray := prog_1_method_11_code
def yX10_set : MethodName := ⟨RX10, "set", "(II)I"⟩
abbrev cX10_get : ByteArray := prog_1_method_12_code
def yX10_get : MethodName := ⟨RX10, "get", "(I)I"⟩
abbrev cX10_poke : ByteArray := prog_1_method_13_code
def yX10_poke : MethodName := ⟨RX10, "poke", "(II)I"⟩
abbrev cX10_peek : ByteArray := prog_1_method_14_code
def yX10_peek : MethodName := ⟨RX10, "peek", "(I)I"⟩
abbrev cX10_restart : ByteArray := prog_1_method_15_code
def yX10_restart : MethodName := ⟨RX10, "restart", "()V"⟩
abbrev cX10_run : ByteArray := prog_1_method_16_code
def yX10_run : MethodName := ⟨RX10, "run", "(I)I"⟩
abbrev cX10_at : ByteArray := prog_1_method_17_code
def yX10_at : MethodName := ⟨RX10, "at", "()I"⟩
abbrev cX10_cycles : ByteArray := prog_1_method_18_code
def yX10_cycles : MethodName := ⟨RX10, "cycles", "()J"⟩
def RX11 : String := "CycleSynthesisModel"
def TX11 : u_T := fun k => match k with
  | 0 => ("CycleSynthesisModel", "thrown", "I", false)
  | 1 => ("CycleSynthesisModel", "tape", "[I", true)
  | 2 => ("CycleSynthesisModel", "size", "I", false)
  | 3 => ("CycleSynthesisModel", "fault", "I", false)
  | 4 => ("CycleSynthesisModel", "place", "I", false)
  | 5 => ("CycleSynthesisModel", "at", "I", false)
  | 6 => ("CycleSynthesisModel", "brackets", "I", false)
  | 7 => ("CycleSynthesisModel", "braces", "I", false)
  | 8 => ("CycleSynthesisModel", "operandSort", "I", false)
  | 9 => ("CycleSynthesisModel", "operandValue", "I", false)
  | 10 => ("CycleSynthesisModel", "newCount", "I", false)
  | 11 => ("CycleSynthesisModel", "newCodes", "[I", true)
  | 12 => ("CycleSynthesisModel", "newSorts", "[I", true)
  | 13 => ("CycleSynthesisModel", "newValues", "[I", true)
  | 14 => ("CycleSynthesisModel", "newGives", "[I", true)
  | 15 => ("CycleSynthesisModel", "newBlocks", "[I", true)
  | 16 => ("CycleSynthesisModel", "newBlockCount", "I", false)
  | 17 => ("CycleSynthesisModel", "newEndSort", "[I", true)
  | 18 => ("CycleSynthesisModel", "newEndValue", "[I", true)
  | 19 => ("CycleSynthesisModel", "newGo", "[I", true)
  | 20 => ("CycleSynthesisModel", "newElse", "[I", true)
  | 21 => ("CycleSynthesisModel", "newHasEnd", "[Z", true)
  | 22 => ("CycleSynthesisModel", "current", "I", false)
  | 23 => ("CycleSynthesisModel", "ways", "[I", true)
  | 24 => ("CycleSynthesisModel", "wayCount", "I", false)
  | 25 => ("CycleSynthesisModel", "count", "I", false)
  | 26 => ("CycleSynthesisModel", "codes", "[I", true)
  | 27 => ("CycleSynthesisModel", "sorts", "[I", true)
  | 28 => ("CycleSynthesisModel", "values", "[I", true)
  | 29 => ("CycleSynthesisModel", "gives", "[I", true)
  | 30 => ("CycleSynthesisModel", "blockOf", "[I", true)
  | 31 => ("CycleSynthesisModel", "blocks", "I", false)
  | 32 => ("CycleSynthesisModel", "endSort", "[I", true)
  | 33 => ("CycleSynthesisModel", "endValue", "[I", true)
  | 34 => ("CycleSynthesisModel", "go", "[I", true)
  | 35 => ("CycleSynthesisModel", "other", "[I", true)
  | 36 => ("CycleSynthesisModel", "hasEnd", "[Z", true)
  | 37 => ("CycleSynthesisModel", "many", "[I", true)
  | 38 => ("CycleSynthesisModel", "latency", "[I", true)
  | 39 => ("CycleSynthesisModel", "heights", "[I", true)
  | 40 => ("CycleSynthesisModel", "begins", "[I", true)
  | 41 => ("CycleSynthesisModel", "units", "[I", true)
  | 42 => ("CycleSynthesisModel", "registers", "[I", true)
  | 43 => ("CycleSynthesisModel", "lengths", "[I", true)
  | 44 => ("CycleSynthesisModel", "variables", "[I", true)
  | 45 => ("CycleSynthesisModel", "memory", "[I", true)
  | 46 => ("CycleSynthesisModel", "results", "[I", true)
  | 47 => ("CycleSynthesisModel", "now", "I", false)
  | 48 => ("CycleSynthesisModel", "cycles", "J", false)
  | 49 => ("CycleSynthesisModel", "waysFrom", "I", false)
  | _ => ("CycleSynthesisModel", "held", "[I", true)
def tyX11 : Nat → FieldType := fun k => match k with
  | 0 => .int
  | 1 => .array .int
  | 2 => .int
  | 3 => .int
  | 4 => .int
  | 5 => .int
  | 6 => .int
  | 7 => .int
  | 8 => .int
  | 9 => .int
  | 10 => .int
  | 11 => .array .int
  | 12 => .array .int
  | 13 => .array .int
  | 14 => .array .int
  | 15 => .array .int
  | 16 => .int
  | 17 => .array .int
  | 18 => .array .int
  | 19 => .array .int
  | 20 => .array .int
  | 21 => .array .boolean
  | 22 => .int
  | 23 => .array .int
  | 24 => .int
  | 25 => .int
  | 26 => .array .int
  | 27 => .array .int
  | 28 => .array .int
  | 29 => .array .int
  | 30 => .array .int
  | 31 => .int
  | 32 => .array .int
  | 33 => .array .int
  | 34 => .array .int
  | 35 => .array .int
  | 36 => .array .boolean
  | 37 => .array .int
  | 38 => .array .int
  | 39 => .array .int
  | 40 => .array .int
  | 41 => .array .int
  | 42 => .array .int
  | 43 => .array .int
  | 44 => .array .int
  | 45 => .array .int
  | 46 => .array .int
  | 47 => .int
  | 48 => .long
  | 49 => .int
  | _ => .array .int
abbrev wsX110 : List Cond := u_ws RX11 TX11 51
theorem nmX11 : ∀ a, a < 51 → ∀ b, b < 51 → a ≠ b → (TX11 a).2.1 ≠ (TX11 b).2.1 := by decide +kernel
theorem tyX11_ok : ∀ k, k < 51 → parseFieldDescriptor (TX11 k).2.2.1 = some (tyX11 k) := by decide +kernel
abbrev cX11_init : ByteArray := prog_13_method_1_code
def yX11_init : MethodName := ⟨RX11, "<init>", "()V"⟩
abbrev cX11_thrown : ByteArray := prog_13_method_2_code
def yX11_thrown : MethodName := ⟨RX11, "thrown", "()I"⟩
abbrev cX11_feed : ByteArray := prog_13_method_3_code
def yX11_feed : MethodName := ⟨RX11, "feed", "(IJ)I"⟩
abbrev cX11_wipe : ByteArray := prog_13_method_4_code
def yX11_wipe : MethodName := ⟨RX11, "wipe", "()I"⟩
abbrev cX11_fail : ByteArray := prog_13_method_5_code
def yX11_fail : MethodName := ⟨RX11, "fail", "(II)V"⟩
abbrev cX11_byteAt : ByteArray := prog_13_method_6_code
def yX11_byteAt : MethodName := ⟨RX11, "byteAt", "(I)I"⟩
abbrev cX11_isLetter : ByteArray := prog_13_method_7_code
def yX11_isLetter : MethodName := ⟨RX11, "isLetter", "(I)Z"⟩
abbrev cX11_isFigure : ByteArray := prog_13_method_8_code
def yX11_isFigure : MethodName := ⟨RX11, "isFigure", "(I)Z"⟩
abbrev cX11_next : ByteArray := prog_13_method_9_code
def yX11_next : MethodName := ⟨RX11, "next", "()I"⟩
abbrev cX11_want : ByteArray := prog_13_method_10_code
def yX11_want : MethodName := ⟨RX11, "want", "(I)V"⟩
abbrev cX11_wordSize : ByteArray := prog_13_method_11_code
def yX11_wordSize : MethodName := ⟨RX11, "wordSize", "(I)I"⟩
abbrev cX11_word : ByteArray := prog_13_method_12_code
def yX11_word : MethodName := ⟨RX11, "word", "()I"⟩
abbrev cX11_way : ByteArray := prog_13_method_13_code
def yX11_way : MethodName := ⟨RX11, "way", "(IZ)V"⟩
abbrev cX11_lead : ByteArray := prog_13_method_14_code
def yX11_lead : MethodName := ⟨RX11, "lead", "(II)V"⟩
abbrev cX11_needBlock : ByteArray := prog_13_method_15_code
def yX11_needBlock : MethodName := ⟨RX11, "needBlock", "()V"⟩
abbrev cX11_emit : ByteArray := prog_13_method_16_code
def yX11_emit : MethodName := ⟨RX11, "emit", "(IIII)I"⟩
abbrev cX11_open : ByteArray := prog_13_method_17_code
def yX11_open : MethodName := ⟨RX11, "open", "()V"⟩
abbrev cX11_number : ByteArray := prog_13_method_18_code
def yX11_number : MethodName := ⟨RX11, "number", "()V"⟩
abbrev cX11_factor : ByteArray := prog_13_method_19_code
def yX11_factor : MethodName := ⟨RX11, "factor", "()V"⟩
abbrev cX11_join : ByteArray := prog_13_method_20_code
def yX11_join : MethodName := ⟨RX11, "join", "(IIII)V"⟩
abbrev cX11_term : ByteArray := prog_13_method_21_code
def yX11_term : MethodName := ⟨RX11, "term", "()V"⟩
abbrev cX11_sum : ByteArray := prog_13_method_22_code
def yX11_sum : MethodName := ⟨RX11, "sum", "()V"⟩
abbrev cX11_expression : ByteArray := prog_13_method_23_code
def yX11_expression : MethodName := ⟨RX11, "expression", "()V"⟩
abbrev cX11_assignment : ByteArray := prog_13_method_24_code
def yX11_assignment : MethodName := ⟨RX11, "assignment", "()V"⟩
abbrev cX11_writing : ByteArray := prog_13_method_25_code
def yX11_writing : MethodName := ⟨RX11, "writing", "()V"⟩
abbrev cX11_inBraces : ByteArray := prog_13_method_26_code
def yX11_inBraces : MethodName := ⟨RX11, "inBraces", "()V"⟩
abbrev cX11_endBlock : ByteArray := prog_13_method_27_code
def yX11_endBlock : MethodName := ⟨RX11, "endBlock", "()I"⟩
abbrev cX11_leaveOpen : ByteArray := prog_13_method_28_code
def yX11_leaveOpen : MethodName := ⟨RX11, "leaveOpen", "()V"⟩
abbrev cX11_choice : ByteArray := prog_13_method_29_code
def yX11_choice : MethodName := ⟨RX11, "choice", "()V"⟩
abbrev cX11_loop : ByteArray := prog_13_method_30_code
def yX11_loop : MethodName := ⟨RX11, "loop", "()V"⟩
abbrev cX11_statements : ByteArray := prog_13_method_31_code
def yX11_statements : MethodName := ⟨RX11, "statements", "()V"⟩
abbrev cX11_compile : ByteArray := prog_13_method_32_code
def yX11_compile : MethodName := ⟨RX11, "compile", "()I"⟩
abbrev cX11_keepProgram : ByteArray := prog_13_method_33_code
def yX11_keepProgram : MethodName := ⟨RX11, "keepProgram", "()V"⟩
abbrev cX11_fault : ByteArray := prog_13_method_34_code
def yX11_fault : MethodName := ⟨RX11, "fault", "()I"⟩
abbrev cX11_place : ByteArray := prog_13_method_35_code
def yX11_place : MethodName := ⟨RX11, "place", "()I"⟩
abbrev cX11_kindOf : ByteArray := prog_13_method_36_code
def yX11_kindOf : MethodName := ⟨RX11, "kindOf", "(I)I"⟩
abbrev cX11_usesVariable : ByteArray := prog_13_method_37_code
def yX11_usesVariable : MethodName := ⟨RX11, "usesVariable", "(II)Z"⟩
abbrev cX11_usesValue : ByteArray := prog_13_method_38_code
def yX11_usesValue : MethodName := ⟨RX11, "usesValue", "(II)Z"⟩
abbrev cX11_comesBehind : ByteArray := prog_13_method_39_code
def yX11_comesBehind : MethodName := ⟨RX11, "comesBehind", "(II)Z"⟩
abbrev cX11_first : ByteArray := prog_13_method_40_code
def yX11_first : MethodName := ⟨RX11, "first", "(I)I"⟩
abbrev cX11_behindAll : ByteArray := prog_13_method_41_code
def yX11_behindAll : MethodName := ⟨RX11, "behindAll", "(I)I"⟩
abbrev cX11_latencyOf : ByteArray := prog_13_method_42_code
def yX11_latencyOf : MethodName := ⟨RX11, "latencyOf", "(I)I"⟩
abbrev cX11_endOf : ByteArray := prog_13_method_43_code
def yX11_endOf : MethodName := ⟨RX11, "endOf", "(I)I"⟩
abbrev cX11_isReady : ByteArray := prog_13_method_44_code
def yX11_isReady : MethodName := ⟨RX11, "isReady", "(III)Z"⟩
abbrev cX11_freeUnit : ByteArray := prog_13_method_45_code
def yX11_freeUnit : MethodName := ⟨RX11, "freeUnit", "(III)I"⟩
abbrev cX11_beginOne : ByteArray := prog_13_method_46_code
def yX11_beginOne : MethodName := ⟨RX11, "beginOne", "(II)Z"⟩
abbrev cX11_layBlock : ByteArray := prog_13_method_47_code
def yX11_layBlock : MethodName := ⟨RX11, "layBlock", "(I)V"⟩
abbrev cX11_isEnd : ByteArray := prog_13_method_48_code
def yX11_isEnd : MethodName := ⟨RX11, "isEnd", "(II)Z"⟩
abbrev cX11_heldTo : ByteArray := prog_13_method_49_code
def yX11_heldTo : MethodName := ⟨RX11, "heldTo", "(I)I"⟩
abbrev cX11_holds : ByteArray := prog_13_method_50_code
def yX11_holds : MethodName := ⟨RX11, "holds", "(I)Z"⟩
abbrev cX11_meet : ByteArray := prog_13_method_51_code
def yX11_meet : MethodName := ⟨RX11, "meet", "(II)Z"⟩
abbrev cX11_isBefore : ByteArray := prog_13_method_52_code
def yX11_isBefore : MethodName := ⟨RX11, "isBefore", "(II)Z"⟩
abbrev cX11_bindOne : ByteArray := prog_13_method_53_code
def yX11_bindOne : MethodName := ⟨RX11, "bindOne", "(I)V"⟩
abbrev cX11_bindRegisters : ByteArray := prog_13_method_54_code
def yX11_bindRegisters : MethodName := ⟨RX11, "bindRegisters", "()V"⟩
abbrev cX11_lay : ByteArray := prog_13_method_55_code
def yX11_lay : MethodName := ⟨RX11, "lay", "()V"⟩
abbrev cX11_units : ByteArray := prog_13_method_56_code
def yX11_units : MethodName := ⟨RX11, "units", "(III)V"⟩
abbrev cX11_told : ByteArray := prog_13_method_57_code
def yX11_told : MethodName := ⟨RX11, "told", "(I)I"⟩
abbrev cX11_block : ByteArray := prog_13_method_58_code
def yX11_block : MethodName := ⟨RX11, "block", "(II)I"⟩
abbrev cX11_operation : ByteArray := prog_13_method_59_code
def yX11_operation : MethodName := ⟨RX11, "operation", "(II)I"⟩
abbrev cX11_set : ByteArray := prog_13_method_60_code
def yX11_set : MethodName := ⟨RX11, "set", "(II)I"⟩
abbrev cX11_get : ByteArray := prog_13_method_61_code
def yX11_get : MethodName := ⟨RX11, "get", "(I)I"⟩
abbrev cX11_poke : ByteArray := prog_13_method_62_code
def yX11_poke : MethodName := ⟨RX11, "poke", "(II)I"⟩
abbrev cX11_peek : ByteArray := prog_13_method_63_code
def yX11_peek : MethodName := ⟨RX11, "peek", "(I)I"⟩
abbrev cX11_stand : ByteArray := prog_13_method_64_code
def yX11_stand : MethodName := ⟨RX11, "stand", "()V"⟩
abbrev cX11_restart : ByteArray := prog_13_method_65_code
def yX11_restart : MethodName := ⟨RX11, "restart", "()V"⟩
abbrev cX11_look : ByteArray := prog_13_method_66_code
def yX11_look : MethodName := ⟨RX11, "look", "(II)I"⟩
abbrev cX11_doOperation : ByteArray := prog_13_method_67_code
def yX11_doOperation : MethodName := ⟨RX11, "doOperation", "(I)V"⟩
abbrev cX11_run : ByteArray := prog_13_method_68_code
def yX11_run : MethodName := ⟨RX11, "run", "(I)I"⟩
abbrev cX11_at : ByteArray := prog_13_method_69_code
def yX11_at : MethodName := ⟨RX11, "at", "()I"⟩
abbrev cX11_cycles : ByteArray := prog_13_method_70_code
def yX11_cycles : MethodName := ⟨RX11, "cycles", "()J"⟩
def RJ9 : String := "java/lang/Math"
def TJ9 : u_T := fun k => match k with
  | _ => ("", "", "", false)
def tyJ9 : Nat → FieldType := fun k => match k with
  | _ => .int
abbrev wsJ90 : List Cond := u_ws RJ9 TJ9 0
theorem nmJ9 : ∀ a, a < 0 → ∀ b, b < 0 → a ≠ b → (TJ9 a).2.1 ≠ (TJ9 b).2.1 := by decide +kernel
theorem tyJ9_ok : ∀ k, k < 0 → parseFieldDescriptor (TJ9 k).2.2.1 = some (tyJ9 k) := by decide +kernel
abbrev cJ9_max_7cf53 : ByteArray := prog_17_method_65_code
def yJ9_max_7cf53 : MethodName := ⟨RJ9, "max", "(II)I"⟩
abbrev cJ9_min_f86c9 : ByteArray := prog_17_method_70_code
def yJ9_min_f86c9 : MethodName := ⟨RJ9, "min", "(JJ)J"⟩
def RJ0 : String := "java/lang/String"
def TJ0 : u_T := fun k => match k with
  | _ => ("", "", "", false)
def tyJ0 : Nat → FieldType := fun k => match k with
  | _ => .int
abbrev wsJ00 : List Cond := u_ws RJ0 TJ0 0
theorem nmJ0 : ∀ a, a < 0 → ∀ b, b < 0 → a ≠ b → (TJ0 a).2.1 ≠ (TJ0 b).2.1 := by decide +kernel
theorem tyJ0_ok : ∀ k, k < 0 → parseFieldDescriptor (TJ0 k).2.2.1 = some (tyJ0 k) := by decide +kernel
abbrev cJ0_length_8abf5 : ByteArray := prog_19_method_54_code
def yJ0_length_8abf5 : MethodName := ⟨RJ0, "length", "()I"⟩
abbrev cJ0_charAt_5068e : ByteArray := prog_19_method_56_code
def yJ0_charAt_5068e : MethodName := ⟨RJ0, "charAt", "(I)C"⟩
abbrev cJ0_coder_7d493 : ByteArray := prog_19_method_152_code
def yJ0_coder_7d493 : MethodName := ⟨RJ0, "coder", "()B"⟩
abbrev cJ0_isLatin1_aae02 : ByteArray := prog_19_method_154_code
def yJ0_isLatin1_aae02 : MethodName := ⟨RJ0, "isLatin1", "()Z"⟩
abbrev cJ0_checkIndex_df160 : ByteArray := prog_19_method_155_code
def yJ0_checkIndex_df160 : MethodName := ⟨RJ0, "checkIndex", "(II)V"⟩
def RJ1 : String := "java/lang/StringLatin1"
def TJ1 : u_T := fun k => match k with
  | _ => ("", "", "", false)
def tyJ1 : Nat → FieldType := fun k => match k with
  | _ => .int
abbrev wsJ10 : List Cond := u_ws RJ1 TJ1 0
theorem nmJ1 : ∀ a, a < 0 → ∀ b, b < 0 → a ≠ b → (TJ1 a).2.1 ≠ (TJ1 b).2.1 := by decide +kernel
theorem tyJ1_ok : ∀ k, k < 0 → parseFieldDescriptor (TJ1 k).2.2.1 = some (tyJ1 k) := by decide +kernel
abbrev cJ1_charAt_3b067 : ByteArray := prog_20_method_2_code
def yJ1_charAt_3b067 : MethodName := ⟨RJ1, "charAt", "([BI)C"⟩
def RJ2 : String := "java/lang/StringUTF16"
def TJ2 : u_T := fun k => match k with
  | _ => ("", "", "", false)
def tyJ2 : Nat → FieldType := fun k => match k with
  | _ => .int
abbrev wsJ20 : List Cond := u_ws RJ2 TJ2 0
theorem nmJ2 : ∀ a, a < 0 → ∀ b, b < 0 → a ≠ b → (TJ2 a).2.1 ≠ (TJ2 b).2.1 := by decide +kernel
theorem tyJ2_ok : ∀ k, k < 0 → parseFieldDescriptor (TJ2 k).2.2.1 = some (tyJ2 k) := by decide +kernel
abbrev cJ2_getChar_3b067 : ByteArray := prog_21_method_5_code
def yJ2_getChar_3b067 : MethodName := ⟨RJ2, "getChar", "([BI)C"⟩
abbrev cJ2_length_9d52b : ByteArray := prog_21_method_6_code
def yJ2_length_9d52b : MethodName := ⟨RJ2, "length", "([B)I"⟩
abbrev cJ2_charAt_3b067 : ByteArray := prog_21_method_83_code
def yJ2_charAt_3b067 : MethodName := ⟨RJ2, "charAt", "([BI)C"⟩
abbrev cJ2_checkIndex_2214a : ByteArray := prog_21_method_91_code
def yJ2_checkIndex_2214a : MethodName := ⟨RJ2, "checkIndex", "(I[B)V"⟩
def RJ3 : String := "jdk/internal/util/Preconditions"
def TJ3 : u_T := fun k => match k with
  | _ => ("", "", "", false)
def tyJ3 : Nat → FieldType := fun k => match k with
  | _ => .int
abbrev wsJ30 : List Cond := u_ws RJ3 TJ3 0
theorem nmJ3 : ∀ a, a < 0 → ∀ b, b < 0 → a ≠ b → (TJ3 a).2.1 ≠ (TJ3 b).2.1 := by decide +kernel
theorem tyJ3_ok : ∀ k, k < 0 → parseFieldDescriptor (TJ3 k).2.2.1 = some (tyJ3 k) := by decide +kernel
abbrev cJ3_checkIndex_8e157 : ByteArray := prog_23_method_11_code
def yJ3_checkIndex_8e157 : MethodName := ⟨RJ3, "checkIndex", "(IILjava/util/function/BiFunction;)I"⟩
def RL : String := "CycleSynthesisLaw"
abbrev cL_feed : ByteArray := method_3_code
def yL_feed : MethodName := ⟨RL, "feed", "(LCycleSynthesis;IJ[J)I"⟩
abbrev cL_units : ByteArray := method_4_code
def yL_units : MethodName := ⟨RL, "units", "(LCycleSynthesis;III)I"⟩
abbrev cL_told : ByteArray := method_5_code
def yL_told : MethodName := ⟨RL, "told", "(LCycleSynthesis;I[J)I"⟩
abbrev cL_block : ByteArray := method_6_code
def yL_block : MethodName := ⟨RL, "block", "(LCycleSynthesis;II[J)I"⟩
abbrev cL_operation : ByteArray := method_7_code
def yL_operation : MethodName := ⟨RL, "operation", "(LCycleSynthesis;II[J)I"⟩
abbrev cL_set : ByteArray := method_8_code
def yL_set : MethodName := ⟨RL, "set", "(LCycleSynthesis;II[J)I"⟩
abbrev cL_get : ByteArray := method_9_code
def yL_get : MethodName := ⟨RL, "get", "(LCycleSynthesis;I[J)I"⟩
abbrev cL_poke : ByteArray := method_10_code
def yL_poke : MethodName := ⟨RL, "poke", "(LCycleSynthesis;II[J)I"⟩
abbrev cL_peek : ByteArray := method_11_code
def yL_peek : MethodName := ⟨RL, "peek", "(LCycleSynthesis;I[J)I"⟩
abbrev cL_run : ByteArray := method_12_code
def yL_run : MethodName := ⟨RL, "run", "(LCycleSynthesis;I[J)I"⟩
abbrev cL_law : ByteArray := code
def yL_law : MethodName := ⟨RL, "law", "([I)Z"⟩
abbrev vwCl : List vw_C := [(RX0, TX0, 7), (RX1, TX1, 6), (RX2, TX2, 6), (RX4, TX4, 15), (RX5, TX5, 4), (RX6, TX6, 2), (RX7, TX7, 2), (RX8, TX8, 7), (RX9, TX9, 6), (RX10, TX10, 6), (RX11, TX11, 51)]
end
section
theorem dX0_init_0 : decode cX0_init 0 = .ok (.aload_n 0, 1) := by decide +kernel
theorem dX0_init_1 : decode cX0_init 1 = .ok (.invokespecial 3, 3) := by decide +kernel
theorem dX0_init_4 : decode cX0_init 4 = .ok (.return_, 1) := by decide +kernel
theorem dX0_become_0 : decode cX0_become 0 = .ok (.aload_n 0, 1) := by decide +kernel
theorem dX0_become_1 : decode cX0_become 1 = .ok (.iload_n 1, 1) := by decide +kernel
theorem dX0_become_2 : decode cX0_become 2 = .ok (.putfield 9, 3) := by decide +kernel
theorem dX0_become_5 : decode cX0_become 5 = .ok (.aload_n 0, 1) := by decide +kernel
theorem dX0_become_6 : decode cX0_become 6 = .ok (.iconst 0, 1) := by decide +kernel
theorem dX0_become_7 : decode cX0_become 7 = .ok (.putfield 15, 3) := by decide +kernel
theorem dX0_become_10 : decode cX0_become 10 = .ok (.aload_n 0, 1) := by decide +kernel
theorem dX0_become_11 : decode cX0_become 11 = .ok (.iconst 0, 1) := by decide +kernel
theorem dX0_become_12 : decode cX0_become 12 = .ok (.putfield 18, 3) := by decide +kernel
theorem dX0_become_15 : decode cX0_become 15 = .ok (.aload_n 0, 1) := by decide +kernel
theorem dX0_become_16 : decode cX0_become 16 = .ok (.iconst 0, 1) := by decide +kernel
theorem dX0_become_17 : decode cX0_become 17 = .ok (.putfield 24, 3) := by decide +kernel
theorem dX0_become_20 : decode cX0_become 20 = .ok (.aload_n 0, 1) := by decide +kernel
theorem dX0_become_21 : decode cX0_become 21 = .ok (.iconst (-1), 1) := by decide +kernel
theorem dX0_become_22 : decode cX0_become 22 = .ok (.putfield 27, 3) := by decide +kernel
theorem dX0_become_25 : decode cX0_become 25 = .ok (.aload_n 0, 1) := by decide +kernel
theorem dX0_become_26 : decode cX0_become 26 = .ok (.iconst (-1), 1) := by decide +kernel
theorem dX0_become_27 : decode cX0_become 27 = .ok (.putfield 30, 3) := by decide +kernel
theorem dX0_become_30 : decode cX0_become 30 = .ok (.return_, 1) := by decide +kernel
theorem dX1_init_0 : decode cX1_init 0 = .ok (.aload_n 0, 1) := by decide +kernel
theorem dX1_init_1 : decode cX1_init 1 = .ok (.invokespecial 3, 3) := by decide +kernel
theorem dX1_init_4 : decode cX1_init 4 = .ok (.aload_n 0, 1) := by decide +kernel
theorem dX1_init_5 : decode cX1_init 5 = .ok (.iconst 3, 1) := by decide +kernel
theorem dX1_init_6 : decode cX1_init 6 = .ok (.newarray .int, 2) := by decide +kernel
theorem dX1_init_8 : decode cX1_init 8 = .ok (.dup, 1) := by decide +kernel
theorem dX1_init_9 : decode cX1_init 9 = .ok (.iconst 0, 1) := by decide +kernel
theorem dX1_init_10 : decode cX1_init 10 = .ok (.iconst 1, 1) := by decide +kernel
theorem dX1_init_11 : decode cX1_init 11 = .ok (.iastore, 1) := by decide +kernel
theorem dX1_init_12 : decode cX1_init 12 = .ok (.dup, 1) := by decide +kernel
theorem dX1_init_13 : decode cX1_init 13 = .ok (.iconst 1, 1) := by decide +kernel
theorem dX1_init_14 : decode cX1_init 14 = .ok (.iconst 1, 1) := by decide +kernel
theorem dX1_init_15 : decode cX1_init 15 = .ok (.iastore, 1) := by decide +kernel
theorem dX1_init_16 : decode cX1_init 16 = .ok (.dup, 1) := by decide +kernel
theorem dX1_init_17 : decode cX1_init 17 = .ok (.iconst 2, 1) := by decide +kernel
theorem dX1_init_18 : decode cX1_init 18 = .ok (.iconst 1, 1) := by decide +kernel
theorem dX1_init_19 : decode cX1_init 19 = .ok (.iastore, 1) := by decide +kernel
theorem dX1_init_20 : decode cX1_init 20 = .ok (.putfield 9, 3) := by decide +kernel
theorem dX1_init_23 : decode cX1_init 23 = .ok (.aload_n 0, 1) := by decide +kernel
theorem dX1_init_24 : decode cX1_init 24 = .ok (.iconst 4, 1) := by decide +kernel
theorem dX1_init_25 : decode cX1_init 25 = .ok (.newarray .int, 2) := by decide +kernel
theorem dX1_init_27 : decode cX1_init 27 = .ok (.dup, 1) := by decide +kernel
theorem dX1_init_28 : decode cX1_init 28 = .ok (.iconst 0, 1) := by decide +kernel
theorem dX1_init_29 : decode cX1_init 29 = .ok (.iconst 1, 1) := by decide +kernel
theorem dX1_init_30 : decode cX1_init 30 = .ok (.iastore, 1) := by decide +kernel
theorem dX1_init_31 : decode cX1_init 31 = .ok (.dup, 1) := by decide +kernel
theorem dX1_init_32 : decode cX1_init 32 = .ok (.iconst 1, 1) := by decide +kernel
theorem dX1_init_33 : decode cX1_init 33 = .ok (.iconst 1, 1) := by decide +kernel
theorem dX1_init_34 : decode cX1_init 34 = .ok (.iastore, 1) := by decide +kernel
theorem dX1_init_35 : decode cX1_init 35 = .ok (.dup, 1) := by decide +kernel
theorem dX1_init_36 : decode cX1_init 36 = .ok (.iconst 2, 1) := by decide +kernel
theorem dX1_init_37 : decode cX1_init 37 = .ok (.iconst 1, 1) := by decide +kernel
theorem dX1_init_38 : decode cX1_init 38 = .ok (.iastore, 1) := by decide +kernel
theorem dX1_init_39 : decode cX1_init 39 = .ok (.dup, 1) := by decide +kernel
theorem dX1_init_40 : decode cX1_init 40 = .ok (.iconst 3, 1) := by decide +kernel
theorem dX1_init_41 : decode cX1_init 41 = .ok (.iconst 1, 1) := by decide +kernel
theorem dX1_init_42 : decode cX1_init 42 = .ok (.iastore, 1) := by decide +kernel
theorem dX1_init_43 : decode cX1_init 43 = .ok (.putfield 15, 3) := by decide +kernel
theorem dX1_init_46 : decode cX1_init 46 = .ok (.aload_n 0, 1) := by decide +kernel
theorem dX1_init_47 : decode cX1_init 47 = .ok (.bipush 12, 2) := by decide +kernel
theorem dX1_init_49 : decode cX1_init 49 = .ok (.newarray .int, 2) := by decide +kernel
theorem dX1_init_51 : decode cX1_init 51 = .ok (.putfield 18, 3) := by decide +kernel
theorem dX1_init_54 : decode cX1_init 54 = .ok (.aload_n 0, 1) := by decide +kernel
theorem dX1_init_55 : decode cX1_init 55 = .ok (.sipush 200, 3) := by decide +kernel
theorem dX1_init_58 : decode cX1_init 58 = .ok (.newarray .int, 2) := by decide +kernel
theorem dX1_init_60 : decode cX1_init 60 = .ok (.putfield 21, 3) := by decide +kernel
theorem dX1_init_63 : decode cX1_init 63 = .ok (.aload_n 0, 1) := by decide +kernel
theorem dX1_init_64 : decode cX1_init 64 = .ok (.sipush 200, 3) := by decide +kernel
theorem dX1_init_67 : decode cX1_init 67 = .ok (.anewarray 24, 3) := by decide +kernel
theorem dX1_init_70 : decode cX1_init 70 = .ok (.putfield 26, 3) := by decide +kernel
theorem dX1_init_73 : decode cX1_init 73 = .ok (.return_, 1) := by decide +kernel
theorem dX1_allows_0 : decode cX1_allows 0 = .ok (.iload_n 0, 1) := by decide +kernel
theorem dX1_allows_1 : decode cX1_allows 1 = .ok (.ifCond .lt 40, 3) := by decide +kernel
theorem dX1_allows_4 : decode cX1_allows 4 = .ok (.iload_n 0, 1) := by decide +kernel
theorem dX1_allows_5 : decode cX1_allows 5 = .ok (.iconst 2, 1) := by decide +kernel
theorem dX1_allows_6 : decode cX1_allows 6 = .ok (.if_icmp .gt 35, 3) := by decide +kernel
theorem dX1_allows_9 : decode cX1_allows 9 = .ok (.iload_n 1, 1) := by decide +kernel
theorem dX1_allows_10 : decode cX1_allows 10 = .ok (.iconst 1, 1) := by decide +kernel
theorem dX1_allows_11 : decode cX1_allows 11 = .ok (.if_icmp .lt 30, 3) := by decide +kernel
theorem dX1_allows_14 : decode cX1_allows 14 = .ok (.iload_n 1, 1) := by decide +kernel
theorem dX1_allows_15 : decode cX1_allows 15 = .ok (.iconst 4, 1) := by decide +kernel
theorem dX1_allows_16 : decode cX1_allows 16 = .ok (.if_icmp .gt 25, 3) := by decide +kernel
theorem dX1_allows_19 : decode cX1_allows 19 = .ok (.iload_n 2, 1) := by decide +kernel
theorem dX1_allows_20 : decode cX1_allows 20 = .ok (.iconst 1, 1) := by decide +kernel
theorem dX1_allows_21 : decode cX1_allows 21 = .ok (.if_icmp .lt 20, 3) := by decide +kernel
theorem dX1_allows_24 : decode cX1_allows 24 = .ok (.iload_n 2, 1) := by decide +kernel
theorem dX1_allows_25 : decode cX1_allows 25 = .ok (.iload_n 0, 1) := by decide +kernel
theorem dX1_allows_26 : decode cX1_allows 26 = .ok (.ifCond .ne 7, 3) := by decide +kernel
theorem dX1_allows_29 : decode cX1_allows 29 = .ok (.iconst 1, 1) := by decide +kernel
theorem dX1_allows_30 : decode cX1_allows 30 = .ok (.goto 4, 3) := by decide +kernel
theorem dX1_allows_33 : decode cX1_allows 33 = .ok (.iconst 4, 1) := by decide +kernel
theorem dX1_allows_34 : decode cX1_allows 34 = .ok (.if_icmp .gt 7, 3) := by decide +kernel
theorem dX1_allows_37 : decode cX1_allows 37 = .ok (.iconst 1, 1) := by decide +kernel
theorem dX1_allows_38 : decode cX1_allows 38 = .ok (.goto 4, 3) := by decide +kernel
theorem dX1_allows_41 : decode cX1_allows 41 = .ok (.iconst 0, 1) := by decide +kernel
theorem dX1_allows_42 : decode cX1_allows 42 = .ok (.ireturn, 1) := by decide +kernel
theorem dX1_supply_0 : decode cX1_supply 0 = .ok (.aload_n 0, 1) := by decide +kernel
theorem dX1_supply_1 : decode cX1_supply 1 = .ok (.getfield 9, 3) := by decide +kernel
theorem dX1_supply_4 : decode cX1_supply 4 = .ok (.iload_n 1, 1) := by decide +kernel
theorem dX1_supply_5 : decode cX1_supply 5 = .ok (.iload_n 2, 1) := by decide +kernel
theorem dX1_supply_6 : decode cX1_supply 6 = .ok (.iastore, 1) := by decide +kernel
theorem dX1_supply_7 : decode cX1_supply 7 = .ok (.aload_n 0, 1) := by decide +kernel
theorem dX1_supply_8 : decode cX1_supply 8 = .ok (.getfield 15, 3) := by decide +kernel
theorem dX1_supply_11 : decode cX1_supply 11 = .ok (.iload_n 1, 1) := by decide +kernel
theorem dX1_supply_12 : decode cX1_supply 12 = .ok (.iload_n 3, 1) := by decide +kernel
theorem dX1_supply_13 : decode cX1_supply 13 = .ok (.iastore, 1) := by decide +kernel
theorem dX1_supply_14 : decode cX1_supply 14 = .ok (.return_, 1) := by decide +kernel
theorem dX1_lay_0 : decode cX1_lay 0 = .ok (.iconst 0, 1) := by decide +kernel
theorem dX1_lay_1 : decode cX1_lay 1 = .ok (.istore_n 2, 1) := by decide +kernel
theorem dX1_lay_2 : decode cX1_lay 2 = .ok (.iload_n 2, 1) := by decide +kernel
theorem dX1_lay_3 : decode cX1_lay 3 = .ok (.aload_n 1, 1) := by decide +kernel
theorem dX1_lay_4 : decode cX1_lay 4 = .ok (.getfield 30, 3) := by decide +kernel
theorem dX1_lay_7 : decode cX1_lay 7 = .ok (.if_icmp .ge 52, 3) := by decide +kernel
theorem dX1_lay_10 : decode cX1_lay 10 = .ok (.aload_n 1, 1) := by decide +kernel
theorem dX1_lay_11 : decode cX1_lay 11 = .ok (.getfield 36, 3) := by decide +kernel
theorem dX1_lay_14 : decode cX1_lay 14 = .ok (.iload_n 2, 1) := by decide +kernel
theorem dX1_lay_15 : decode cX1_lay 15 = .ok (.aaload, 1) := by decide +kernel
theorem dX1_lay_16 : decode cX1_lay 16 = .ok (.astore_n 3, 1) := by decide +kernel
theorem dX1_lay_17 : decode cX1_lay 17 = .ok (.aload_n 0, 1) := by decide +kernel
theorem dX1_lay_18 : decode cX1_lay 18 = .ok (.aload_n 1, 1) := by decide +kernel
theorem dX1_lay_19 : decode cX1_lay 19 = .ok (.aload_n 3, 1) := by decide +kernel
theorem dX1_lay_20 : decode cX1_lay 20 = .ok (.invokevirtual 40, 3) := by decide +kernel
theorem dX1_lay_23 : decode cX1_lay 23 = .ok (.aload_n 0, 1) := by decide +kernel
theorem dX1_lay_24 : decode cX1_lay 24 = .ok (.aload_n 1, 1) := by decide +kernel
theorem dX1_lay_25 : decode cX1_lay 25 = .ok (.aload_n 3, 1) := by decide +kernel
theorem dX1_lay_26 : decode cX1_lay 26 = .ok (.invokevirtual 44, 3) := by decide +kernel
theorem dX1_lay_29 : decode cX1_lay 29 = .ok (.aload_n 0, 1) := by decide +kernel
theorem dX1_lay_30 : decode cX1_lay 30 = .ok (.aload_n 1, 1) := by decide +kernel
theorem dX1_lay_31 : decode cX1_lay 31 = .ok (.aload_n 3, 1) := by decide +kernel
theorem dX1_lay_32 : decode cX1_lay 32 = .ok (.invokevirtual 47, 3) := by decide +kernel
theorem dX1_lay_35 : decode cX1_lay 35 = .ok (.aload_n 0, 1) := by decide +kernel
theorem dX1_lay_36 : decode cX1_lay 36 = .ok (.aload_n 1, 1) := by decide +kernel
theorem dX1_lay_37 : decode cX1_lay 37 = .ok (.aload_n 3, 1) := by decide +kernel
theorem dX1_lay_38 : decode cX1_lay 38 = .ok (.invokevirtual 50, 3) := by decide +kernel
theorem dX1_lay_41 : decode cX1_lay 41 = .ok (.aload_n 0, 1) := by decide +kernel
theorem dX1_lay_42 : decode cX1_lay 42 = .ok (.aload_n 1, 1) := by decide +kernel
theorem dX1_lay_43 : decode cX1_lay 43 = .ok (.aload_n 3, 1) := by decide +kernel
theorem dX1_lay_44 : decode cX1_lay 44 = .ok (.invokevirtual 53, 3) := by decide +kernel
theorem dX1_lay_47 : decode cX1_lay 47 = .ok (.aload_n 0, 1) := by decide +kernel
theorem dX1_lay_48 : decode cX1_lay 48 = .ok (.aload_n 1, 1) := by decide +kernel
theorem dX1_lay_49 : decode cX1_lay 49 = .ok (.aload_n 3, 1) := by decide +kernel
theorem dX1_lay_50 : decode cX1_lay 50 = .ok (.invokevirtual 56, 3) := by decide +kernel
theorem dX1_lay_53 : decode cX1_lay 53 = .ok (.iinc 2 1, 3) := by decide +kernel
theorem dX1_lay_56 : decode cX1_lay 56 = .ok (.goto (-54), 3) := by decide +kernel
theorem dX1_lay_59 : decode cX1_lay 59 = .ok (.return_, 1) := by decide +kernel
theorem dX1_prepare_0 : decode cX1_prepare 0 = .ok (.aload_n 2, 1) := by decide +kernel
theorem dX1_prepare_1 : decode cX1_prepare 1 = .ok (.getfield 59, 3) := by decide +kernel
theorem dX1_prepare_4 : decode cX1_prepare 4 = .ok (.istore_n 3, 1) := by decide +kernel
theorem dX1_prepare_5 : decode cX1_prepare 5 = .ok (.iload_n 3, 1) := by decide +kernel
theorem dX1_prepare_6 : decode cX1_prepare 6 = .ok (.aload_n 2, 1) := by decide +kernel
theorem dX1_prepare_7 : decode cX1_prepare 7 = .ok (.getfield 59, 3) := by decide +kernel
theorem dX1_prepare_10 : decode cX1_prepare 10 = .ok (.aload_n 2, 1) := by decide +kernel
theorem dX1_prepare_11 : decode cX1_prepare 11 = .ok (.getfield 64, 3) := by decide +kernel
theorem dX1_prepare_14 : decode cX1_prepare 14 = .ok (.iadd, 1) := by decide +kernel
theorem dX1_prepare_15 : decode cX1_prepare 15 = .ok (.if_icmp .ge 62, 3) := by decide +kernel
theorem dX1_prepare_18 : decode cX1_prepare 18 = .ok (.aload_n 1, 1) := by decide +kernel
theorem dX1_prepare_19 : decode cX1_prepare 19 = .ok (.getfield 66, 3) := by decide +kernel
theorem dX1_prepare_22 : decode cX1_prepare 22 = .ok (.iload_n 3, 1) := by decide +kernel
theorem dX1_prepare_23 : decode cX1_prepare 23 = .ok (.aaload, 1) := by decide +kernel
theorem dX1_prepare_24 : decode cX1_prepare 24 = .ok (.astore 4, 2) := by decide +kernel
theorem dX1_prepare_26 : decode cX1_prepare 26 = .ok (.aload 4, 2) := by decide +kernel
theorem dX1_prepare_28 : decode cX1_prepare 28 = .ok (.aload_n 0, 1) := by decide +kernel
theorem dX1_prepare_29 : decode cX1_prepare 29 = .ok (.getfield 15, 3) := by decide +kernel
theorem dX1_prepare_32 : decode cX1_prepare 32 = .ok (.aload 4, 2) := by decide +kernel
theorem dX1_prepare_34 : decode cX1_prepare 34 = .ok (.getfield 69, 3) := by decide +kernel
theorem dX1_prepare_37 : decode cX1_prepare 37 = .ok (.iaload, 1) := by decide +kernel
theorem dX1_prepare_38 : decode cX1_prepare 38 = .ok (.putfield 72, 3) := by decide +kernel
theorem dX1_prepare_41 : decode cX1_prepare 41 = .ok (.aload 4, 2) := by decide +kernel
theorem dX1_prepare_43 : decode cX1_prepare 43 = .ok (.iconst (-1), 1) := by decide +kernel
theorem dX1_prepare_44 : decode cX1_prepare 44 = .ok (.putfield 74, 3) := by decide +kernel
theorem dX1_prepare_47 : decode cX1_prepare 47 = .ok (.aload 4, 2) := by decide +kernel
theorem dX1_prepare_49 : decode cX1_prepare 49 = .ok (.iconst (-1), 1) := by decide +kernel
theorem dX1_prepare_50 : decode cX1_prepare 50 = .ok (.putfield 77, 3) := by decide +kernel
theorem dX1_prepare_53 : decode cX1_prepare 53 = .ok (.aload 4, 2) := by decide +kernel
theorem dX1_prepare_55 : decode cX1_prepare 55 = .ok (.iconst 0, 1) := by decide +kernel
theorem dX1_prepare_56 : decode cX1_prepare 56 = .ok (.putfield 80, 3) := by decide +kernel
theorem dX1_prepare_59 : decode cX1_prepare 59 = .ok (.aload 4, 2) := by decide +kernel
theorem dX1_prepare_61 : decode cX1_prepare 61 = .ok (.iconst 0, 1) := by decide +kernel
theorem dX1_prepare_62 : decode cX1_prepare 62 = .ok (.putfield 83, 3) := by decide +kernel
theorem dX1_prepare_65 : decode cX1_prepare 65 = .ok (.aload 4, 2) := by decide +kernel
theorem dX1_prepare_67 : decode cX1_prepare 67 = .ok (.iconst (-1), 1) := by decide +kernel
theorem dX1_prepare_68 : decode cX1_prepare 68 = .ok (.putfield 86, 3) := by decide +kernel
theorem dX1_prepare_71 : decode cX1_prepare 71 = .ok (.iinc 3 1, 3) := by decide +kernel
theorem dX1_prepare_74 : decode cX1_prepare 74 = .ok (.goto (-69), 3) := by decide +kernel
theorem dX1_prepare_77 : decode cX1_prepare 77 = .ok (.iconst 0, 1) := by decide +kernel
theorem dX1_prepare_78 : decode cX1_prepare 78 = .ok (.istore_n 3, 1) := by decide +kernel
theorem dX1_prepare_79 : decode cX1_prepare 79 = .ok (.iload_n 3, 1) := by decide +kernel
theorem dX1_prepare_80 : decode cX1_prepare 80 = .ok (.bipush 12, 2) := by decide +kernel
theorem dX1_prepare_82 : decode cX1_prepare 82 = .ok (.if_icmp .ge 16, 3) := by decide +kernel
theorem dX1_prepare_85 : decode cX1_prepare 85 = .ok (.aload_n 0, 1) := by decide +kernel
theorem dX1_prepare_86 : decode cX1_prepare 86 = .ok (.getfield 18, 3) := by decide +kernel
theorem dX1_prepare_89 : decode cX1_prepare 89 = .ok (.iload_n 3, 1) := by decide +kernel
theorem dX1_prepare_90 : decode cX1_prepare 90 = .ok (.iconst 0, 1) := by decide +kernel
theorem dX1_prepare_91 : decode cX1_prepare 91 = .ok (.iastore, 1) := by decide +kernel
theorem dX1_prepare_92 : decode cX1_prepare 92 = .ok (.iinc 3 1, 3) := by decide +kernel
theorem dX1_prepare_95 : decode cX1_prepare 95 = .ok (.goto (-16), 3) := by decide +kernel
theorem dX1_prepare_98 : decode cX1_prepare 98 = .ok (.iconst 0, 1) := by decide +kernel
theorem dX1_prepare_99 : decode cX1_prepare 99 = .ok (.istore_n 3, 1) := by decide +kernel
theorem dX1_prepare_100 : decode cX1_prepare 100 = .ok (.iload_n 3, 1) := by decide +kernel
theorem dX1_prepare_101 : decode cX1_prepare 101 = .ok (.sipush 200, 3) := by decide +kernel
theorem dX1_prepare_104 : decode cX1_prepare 104 = .ok (.if_icmp .ge 16, 3) := by decide +kernel
theorem dX1_prepare_107 : decode cX1_prepare 107 = .ok (.aload_n 0, 1) := by decide +kernel
theorem dX1_prepare_108 : decode cX1_prepare 108 = .ok (.getfield 21, 3) := by decide +kernel
theorem dX1_prepare_111 : decode cX1_prepare 111 = .ok (.iload_n 3, 1) := by decide +kernel
theorem dX1_prepare_112 : decode cX1_prepare 112 = .ok (.iconst (-1), 1) := by decide +kernel
theorem dX1_prepare_113 : decode cX1_prepare 113 = .ok (.iastore, 1) := by decide +kernel
theorem dX1_prepare_114 : decode cX1_prepare 114 = .ok (.iinc 3 1, 3) := by decide +kernel
theorem dX1_prepare_117 : decode cX1_prepare 117 = .ok (.goto (-17), 3) := by decide +kernel
theorem dX1_prepare_120 : decode cX1_prepare 120 = .ok (.return_, 1) := by decide +kernel
theorem dX1_measureHeights_0 : decode cX1_measureHeights 0 = .ok (.aload_n 2, 1) := by decide +kernel
theorem dX1_measureHeights_1 : decode cX1_measureHeights 1 = .ok (.getfield 59, 3) := by decide +kernel
theorem dX1_measureHeights_4 : decode cX1_measureHeights 4 = .ok (.aload_n 2, 1) := by decide +kernel
theorem dX1_measureHeights_5 : decode cX1_measureHeights 5 = .ok (.getfield 64, 3) := by decide +kernel
theorem dX1_measureHeights_8 : decode cX1_measureHeights 8 = .ok (.iadd, 1) := by decide +kernel
theorem dX1_measureHeights_9 : decode cX1_measureHeights 9 = .ok (.istore_n 3, 1) := by decide +kernel
theorem dX1_measureHeights_10 : decode cX1_measureHeights 10 = .ok (.iload_n 3, 1) := by decide +kernel
theorem dX1_measureHeights_11 : decode cX1_measureHeights 11 = .ok (.iconst 1, 1) := by decide +kernel
theorem dX1_measureHeights_12 : decode cX1_measureHeights 12 = .ok (.isub, 1) := by decide +kernel
theorem dX1_measureHeights_13 : decode cX1_measureHeights 13 = .ok (.istore 4, 2) := by decide +kernel
theorem dX1_measureHeights_15 : decode cX1_measureHeights 15 = .ok (.iload 4, 2) := by decide +kernel
theorem dX1_measureHeights_17 : decode cX1_measureHeights 17 = .ok (.aload_n 2, 1) := by decide +kernel
theorem dX1_measureHeights_18 : decode cX1_measureHeights 18 = .ok (.getfield 59, 3) := by decide +kernel
theorem dX1_measureHeights_21 : decode cX1_measureHeights 21 = .ok (.if_icmp .lt 94, 3) := by decide +kernel
theorem dX1_measureHeights_24 : decode cX1_measureHeights 24 = .ok (.aload_n 1, 1) := by decide +kernel
theorem dX1_measureHeights_25 : decode cX1_measureHeights 25 = .ok (.getfield 66, 3) := by decide +kernel
theorem dX1_measureHeights_28 : decode cX1_measureHeights 28 = .ok (.iload 4, 2) := by decide +kernel
theorem dX1_measureHeights_30 : decode cX1_measureHeights 30 = .ok (.aaload, 1) := by decide +kernel
theorem dX1_measureHeights_31 : decode cX1_measureHeights 31 = .ok (.astore 5, 2) := by decide +kernel
theorem dX1_measureHeights_33 : decode cX1_measureHeights 33 = .ok (.iconst 0, 1) := by decide +kernel
theorem dX1_measureHeights_34 : decode cX1_measureHeights 34 = .ok (.istore 6, 2) := by decide +kernel
theorem dX1_measureHeights_36 : decode cX1_measureHeights 36 = .ok (.iload 4, 2) := by decide +kernel
theorem dX1_measureHeights_38 : decode cX1_measureHeights 38 = .ok (.iconst 1, 1) := by decide +kernel
theorem dX1_measureHeights_39 : decode cX1_measureHeights 39 = .ok (.iadd, 1) := by decide +kernel
theorem dX1_measureHeights_40 : decode cX1_measureHeights 40 = .ok (.istore 7, 2) := by decide +kernel
theorem dX1_measureHeights_42 : decode cX1_measureHeights 42 = .ok (.iload 7, 2) := by decide +kernel
theorem dX1_measureHeights_44 : decode cX1_measureHeights 44 = .ok (.iload_n 3, 1) := by decide +kernel
theorem dX1_measureHeights_45 : decode cX1_measureHeights 45 = .ok (.if_icmp .ge 51, 3) := by decide +kernel
theorem dX1_measureHeights_48 : decode cX1_measureHeights 48 = .ok (.aload_n 1, 1) := by decide +kernel
theorem dX1_measureHeights_49 : decode cX1_measureHeights 49 = .ok (.getfield 66, 3) := by decide +kernel
theorem dX1_measureHeights_52 : decode cX1_measureHeights 52 = .ok (.iload 7, 2) := by decide +kernel
theorem dX1_measureHeights_54 : decode cX1_measureHeights 54 = .ok (.aaload, 1) := by decide +kernel
theorem dX1_measureHeights_55 : decode cX1_measureHeights 55 = .ok (.astore 8, 2) := by decide +kernel
theorem dX1_measureHeights_57 : decode cX1_measureHeights 57 = .ok (.aload 8, 2) := by decide +kernel
theorem dX1_measureHeights_59 : decode cX1_measureHeights 59 = .ok (.aload 5, 2) := by decide +kernel
theorem dX1_measureHeights_61 : decode cX1_measureHeights 61 = .ok (.invokevirtual 89, 3) := by decide +kernel
theorem dX1_measureHeights_64 : decode cX1_measureHeights 64 = .ok (.ifCond .eq 26, 3) := by decide +kernel
theorem dX1_measureHeights_67 : decode cX1_measureHeights 67 = .ok (.iload 6, 2) := by decide +kernel
theorem dX1_measureHeights_69 : decode cX1_measureHeights 69 = .ok (.aload 8, 2) := by decide +kernel
theorem dX1_measureHeights_71 : decode cX1_measureHeights 71 = .ok (.getfield 93, 3) := by decide +kernel
theorem dX1_measureHeights_74 : decode cX1_measureHeights 74 = .ok (.invokestatic 96, 3) := by decide +kernel
theorem dX1_measureHeights_77 : decode cX1_measureHeights 77 = .ok (.istore 6, 2) := by decide +kernel
theorem dX1_measureHeights_79 : decode cX1_measureHeights 79 = .ok (.aload 8, 2) := by decide +kernel
theorem dX1_measureHeights_81 : decode cX1_measureHeights 81 = .ok (.dup, 1) := by decide +kernel
theorem dX1_measureHeights_82 : decode cX1_measureHeights 82 = .ok (.getfield 80, 3) := by decide +kernel
theorem dX1_measureHeights_85 : decode cX1_measureHeights 85 = .ok (.iconst 1, 1) := by decide +kernel
theorem dX1_measureHeights_86 : decode cX1_measureHeights 86 = .ok (.iadd, 1) := by decide +kernel
theorem dX1_measureHeights_87 : decode cX1_measureHeights 87 = .ok (.putfield 80, 3) := by decide +kernel
theorem dX1_measureHeights_90 : decode cX1_measureHeights 90 = .ok (.iinc 7 1, 3) := by decide +kernel
theorem dX1_measureHeights_93 : decode cX1_measureHeights 93 = .ok (.goto (-51), 3) := by decide +kernel
theorem dX1_measureHeights_96 : decode cX1_measureHeights 96 = .ok (.aload 5, 2) := by decide +kernel
theorem dX1_measureHeights_98 : decode cX1_measureHeights 98 = .ok (.aload 5, 2) := by decide +kernel
theorem dX1_measureHeights_100 : decode cX1_measureHeights 100 = .ok (.getfield 72, 3) := by decide +kernel
theorem dX1_measureHeights_103 : decode cX1_measureHeights 103 = .ok (.iload 6, 2) := by decide +kernel
theorem dX1_measureHeights_105 : decode cX1_measureHeights 105 = .ok (.iadd, 1) := by decide +kernel
theorem dX1_measureHeights_106 : decode cX1_measureHeights 106 = .ok (.putfield 93, 3) := by decide +kernel
theorem dX1_measureHeights_109 : decode cX1_measureHeights 109 = .ok (.iinc 4 (-1), 3) := by decide +kernel
theorem dX1_measureHeights_112 : decode cX1_measureHeights 112 = .ok (.goto (-97), 3) := by decide +kernel
theorem dX1_measureHeights_115 : decode cX1_measureHeights 115 = .ok (.return_, 1) := by decide +kernel
theorem dX1_rank_0 : decode cX1_rank 0 = .ok (.iconst 0, 1) := by decide +kernel
theorem dX1_rank_1 : decode cX1_rank 1 = .ok (.istore_n 3, 1) := by decide +kernel
theorem dX1_rank_2 : decode cX1_rank 2 = .ok (.iload_n 3, 1) := by decide +kernel
theorem dX1_rank_3 : decode cX1_rank 3 = .ok (.aload_n 2, 1) := by decide +kernel
theorem dX1_rank_4 : decode cX1_rank 4 = .ok (.getfield 64, 3) := by decide +kernel
theorem dX1_rank_7 : decode cX1_rank 7 = .ok (.if_icmp .ge 81, 3) := by decide +kernel
theorem dX1_rank_10 : decode cX1_rank 10 = .ok (.aload_n 1, 1) := by decide +kernel
theorem dX1_rank_11 : decode cX1_rank 11 = .ok (.getfield 66, 3) := by decide +kernel
theorem dX1_rank_14 : decode cX1_rank 14 = .ok (.aload_n 2, 1) := by decide +kernel
theorem dX1_rank_15 : decode cX1_rank 15 = .ok (.getfield 59, 3) := by decide +kernel
theorem dX1_rank_18 : decode cX1_rank 18 = .ok (.iload_n 3, 1) := by decide +kernel
theorem dX1_rank_19 : decode cX1_rank 19 = .ok (.iadd, 1) := by decide +kernel
theorem dX1_rank_20 : decode cX1_rank 20 = .ok (.aaload, 1) := by decide +kernel
theorem dX1_rank_21 : decode cX1_rank 21 = .ok (.astore 4, 2) := by decide +kernel
theorem dX1_rank_23 : decode cX1_rank 23 = .ok (.iload_n 3, 1) := by decide +kernel
theorem dX1_rank_24 : decode cX1_rank 24 = .ok (.istore 5, 2) := by decide +kernel
theorem dX1_rank_26 : decode cX1_rank 26 = .ok (.iload 5, 2) := by decide +kernel
theorem dX1_rank_28 : decode cX1_rank 28 = .ok (.ifCond .le 45, 3) := by decide +kernel
theorem dX1_rank_31 : decode cX1_rank 31 = .ok (.aload_n 0, 1) := by decide +kernel
theorem dX1_rank_32 : decode cX1_rank 32 = .ok (.getfield 26, 3) := by decide +kernel
theorem dX1_rank_35 : decode cX1_rank 35 = .ok (.iload 5, 2) := by decide +kernel
theorem dX1_rank_37 : decode cX1_rank 37 = .ok (.iconst 1, 1) := by decide +kernel
theorem dX1_rank_38 : decode cX1_rank 38 = .ok (.isub, 1) := by decide +kernel
theorem dX1_rank_39 : decode cX1_rank 39 = .ok (.aaload, 1) := by decide +kernel
theorem dX1_rank_40 : decode cX1_rank 40 = .ok (.getfield 93, 3) := by decide +kernel
theorem dX1_rank_43 : decode cX1_rank 43 = .ok (.aload 4, 2) := by decide +kernel
theorem dX1_rank_45 : decode cX1_rank 45 = .ok (.getfield 93, 3) := by decide +kernel
theorem dX1_rank_48 : decode cX1_rank 48 = .ok (.if_icmp .ge 25, 3) := by decide +kernel
theorem dX1_rank_51 : decode cX1_rank 51 = .ok (.aload_n 0, 1) := by decide +kernel
theorem dX1_rank_52 : decode cX1_rank 52 = .ok (.getfield 26, 3) := by decide +kernel
theorem dX1_rank_55 : decode cX1_rank 55 = .ok (.iload 5, 2) := by decide +kernel
theorem dX1_rank_57 : decode cX1_rank 57 = .ok (.aload_n 0, 1) := by decide +kernel
theorem dX1_rank_58 : decode cX1_rank 58 = .ok (.getfield 26, 3) := by decide +kernel
theorem dX1_rank_61 : decode cX1_rank 61 = .ok (.iload 5, 2) := by decide +kernel
theorem dX1_rank_63 : decode cX1_rank 63 = .ok (.iconst 1, 1) := by decide +kernel
theorem dX1_rank_64 : decode cX1_rank 64 = .ok (.isub, 1) := by decide +kernel
theorem dX1_rank_65 : decode cX1_rank 65 = .ok (.aaload, 1) := by decide +kernel
theorem dX1_rank_66 : decode cX1_rank 66 = .ok (.aastore, 1) := by decide +kernel
theorem dX1_rank_67 : decode cX1_rank 67 = .ok (.iinc 5 (-1), 3) := by decide +kernel
theorem dX1_rank_70 : decode cX1_rank 70 = .ok (.goto (-44), 3) := by decide +kernel
theorem dX1_rank_73 : decode cX1_rank 73 = .ok (.aload_n 0, 1) := by decide +kernel
theorem dX1_rank_74 : decode cX1_rank 74 = .ok (.getfield 26, 3) := by decide +kernel
theorem dX1_rank_77 : decode cX1_rank 77 = .ok (.iload 5, 2) := by decide +kernel
theorem dX1_rank_79 : decode cX1_rank 79 = .ok (.aload 4, 2) := by decide +kernel
theorem dX1_rank_81 : decode cX1_rank 81 = .ok (.aastore, 1) := by decide +kernel
theorem dX1_rank_82 : decode cX1_rank 82 = .ok (.iinc 3 1, 3) := by decide +kernel
theorem dX1_rank_85 : decode cX1_rank 85 = .ok (.goto (-83), 3) := by decide +kernel
theorem dX1_rank_88 : decode cX1_rank 88 = .ok (.return_, 1) := by decide +kernel
theorem dX1_beginAll_0 : decode cX1_beginAll 0 = .ok (.aload_n 2, 1) := by decide +kernel
theorem dX1_beginAll_1 : decode cX1_beginAll 1 = .ok (.iconst 1, 1) := by decide +kernel
theorem dX1_beginAll_2 : decode cX1_beginAll 2 = .ok (.putfield 102, 3) := by decide +kernel
theorem dX1_beginAll_5 : decode cX1_beginAll 5 = .ok (.iconst 0, 1) := by decide +kernel
theorem dX1_beginAll_6 : decode cX1_beginAll 6 = .ok (.istore_n 3, 1) := by decide +kernel
theorem dX1_beginAll_7 : decode cX1_beginAll 7 = .ok (.iconst 0, 1) := by decide +kernel
theorem dX1_beginAll_8 : decode cX1_beginAll 8 = .ok (.istore 4, 2) := by decide +kernel
theorem dX1_beginAll_10 : decode cX1_beginAll 10 = .ok (.iload 4, 2) := by decide +kernel
theorem dX1_beginAll_12 : decode cX1_beginAll 12 = .ok (.sipush 800, 3) := by decide +kernel
theorem dX1_beginAll_15 : decode cX1_beginAll 15 = .ok (.if_icmp .ge 93, 3) := by decide +kernel
theorem dX1_beginAll_18 : decode cX1_beginAll 18 = .ok (.iload_n 3, 1) := by decide +kernel
theorem dX1_beginAll_19 : decode cX1_beginAll 19 = .ok (.aload_n 2, 1) := by decide +kernel
theorem dX1_beginAll_20 : decode cX1_beginAll 20 = .ok (.getfield 64, 3) := by decide +kernel
theorem dX1_beginAll_23 : decode cX1_beginAll 23 = .ok (.if_icmp .ge 85, 3) := by decide +kernel
theorem dX1_beginAll_26 : decode cX1_beginAll 26 = .ok (.aload_n 0, 1) := by decide +kernel
theorem dX1_beginAll_27 : decode cX1_beginAll 27 = .ok (.iconst 0, 1) := by decide +kernel
theorem dX1_beginAll_28 : decode cX1_beginAll 28 = .ok (.putfield 105, 3) := by decide +kernel
theorem dX1_beginAll_31 : decode cX1_beginAll 31 = .ok (.iconst 0, 1) := by decide +kernel
theorem dX1_beginAll_32 : decode cX1_beginAll 32 = .ok (.istore 5, 2) := by decide +kernel
theorem dX1_beginAll_34 : decode cX1_beginAll 34 = .ok (.iload 5, 2) := by decide +kernel
theorem dX1_beginAll_36 : decode cX1_beginAll 36 = .ok (.aload_n 2, 1) := by decide +kernel
theorem dX1_beginAll_37 : decode cX1_beginAll 37 = .ok (.getfield 64, 3) := by decide +kernel
theorem dX1_beginAll_40 : decode cX1_beginAll 40 = .ok (.if_icmp .ge 62, 3) := by decide +kernel
theorem dX1_beginAll_43 : decode cX1_beginAll 43 = .ok (.aload_n 0, 1) := by decide +kernel
theorem dX1_beginAll_44 : decode cX1_beginAll 44 = .ok (.aload_n 0, 1) := by decide +kernel
theorem dX1_beginAll_45 : decode cX1_beginAll 45 = .ok (.getfield 26, 3) := by decide +kernel
theorem dX1_beginAll_48 : decode cX1_beginAll 48 = .ok (.iload 5, 2) := by decide +kernel
theorem dX1_beginAll_50 : decode cX1_beginAll 50 = .ok (.aaload, 1) := by decide +kernel
theorem dX1_beginAll_51 : decode cX1_beginAll 51 = .ok (.iload 4, 2) := by decide +kernel
theorem dX1_beginAll_53 : decode cX1_beginAll 53 = .ok (.invokevirtual 108, 3) := by decide +kernel
theorem dX1_beginAll_56 : decode cX1_beginAll 56 = .ok (.ifCond .eq 40, 3) := by decide +kernel
theorem dX1_beginAll_59 : decode cX1_beginAll 59 = .ok (.iinc 3 1, 3) := by decide +kernel
theorem dX1_beginAll_62 : decode cX1_beginAll 62 = .ok (.aload_n 2, 1) := by decide +kernel
theorem dX1_beginAll_63 : decode cX1_beginAll 63 = .ok (.aload_n 2, 1) := by decide +kernel
theorem dX1_beginAll_64 : decode cX1_beginAll 64 = .ok (.getfield 102, 3) := by decide +kernel
theorem dX1_beginAll_67 : decode cX1_beginAll 67 = .ok (.aload_n 0, 1) := by decide +kernel
theorem dX1_beginAll_68 : decode cX1_beginAll 68 = .ok (.getfield 26, 3) := by decide +kernel
theorem dX1_beginAll_71 : decode cX1_beginAll 71 = .ok (.iload 5, 2) := by decide +kernel
theorem dX1_beginAll_73 : decode cX1_beginAll 73 = .ok (.aaload, 1) := by decide +kernel
theorem dX1_beginAll_74 : decode cX1_beginAll 74 = .ok (.invokevirtual 112, 3) := by decide +kernel
theorem dX1_beginAll_77 : decode cX1_beginAll 77 = .ok (.invokestatic 96, 3) := by decide +kernel
theorem dX1_beginAll_80 : decode cX1_beginAll 80 = .ok (.putfield 102, 3) := by decide +kernel
theorem dX1_beginAll_83 : decode cX1_beginAll 83 = .ok (.aload_n 0, 1) := by decide +kernel
theorem dX1_beginAll_84 : decode cX1_beginAll 84 = .ok (.aload_n 1, 1) := by decide +kernel
theorem dX1_beginAll_85 : decode cX1_beginAll 85 = .ok (.aload_n 2, 1) := by decide +kernel
theorem dX1_beginAll_86 : decode cX1_beginAll 86 = .ok (.aload_n 0, 1) := by decide +kernel
theorem dX1_beginAll_87 : decode cX1_beginAll 87 = .ok (.getfield 26, 3) := by decide +kernel
theorem dX1_beginAll_90 : decode cX1_beginAll 90 = .ok (.iload 5, 2) := by decide +kernel
theorem dX1_beginAll_92 : decode cX1_beginAll 92 = .ok (.aaload, 1) := by decide +kernel
theorem dX1_beginAll_93 : decode cX1_beginAll 93 = .ok (.invokevirtual 116, 3) := by decide +kernel
theorem dX1_beginAll_96 : decode cX1_beginAll 96 = .ok (.iinc 5 1, 3) := by decide +kernel
theorem dX1_beginAll_99 : decode cX1_beginAll 99 = .ok (.goto (-65), 3) := by decide +kernel
theorem dX1_beginAll_102 : decode cX1_beginAll 102 = .ok (.iinc 4 1, 3) := by decide +kernel
theorem dX1_beginAll_105 : decode cX1_beginAll 105 = .ok (.goto (-95), 3) := by decide +kernel
theorem dX1_beginAll_108 : decode cX1_beginAll 108 = .ok (.return_, 1) := by decide +kernel
theorem dX1_begins_0 : decode cX1_begins 0 = .ok (.aload_n 1, 1) := by decide +kernel
theorem dX1_begins_1 : decode cX1_begins 1 = .ok (.invokevirtual 120, 3) := by decide +kernel
theorem dX1_begins_4 : decode cX1_begins 4 = .ok (.ifCond .ne 18, 3) := by decide +kernel
theorem dX1_begins_7 : decode cX1_begins 7 = .ok (.aload_n 1, 1) := by decide +kernel
theorem dX1_begins_8 : decode cX1_begins 8 = .ok (.getfield 80, 3) := by decide +kernel
theorem dX1_begins_11 : decode cX1_begins 11 = .ok (.ifCond .gt 11, 3) := by decide +kernel
theorem dX1_begins_14 : decode cX1_begins 14 = .ok (.aload_n 1, 1) := by decide +kernel
theorem dX1_begins_15 : decode cX1_begins 15 = .ok (.getfield 83, 3) := by decide +kernel
theorem dX1_begins_18 : decode cX1_begins 18 = .ok (.iload_n 2, 1) := by decide +kernel
theorem dX1_begins_19 : decode cX1_begins 19 = .ok (.if_icmp .le 5, 3) := by decide +kernel
theorem dX1_begins_22 : decode cX1_begins 22 = .ok (.iconst 0, 1) := by decide +kernel
theorem dX1_begins_23 : decode cX1_begins 23 = .ok (.ireturn, 1) := by decide +kernel
theorem dX1_begins_24 : decode cX1_begins 24 = .ok (.aload_n 1, 1) := by decide +kernel
theorem dX1_begins_25 : decode cX1_begins 25 = .ok (.getfield 69, 3) := by decide +kernel
theorem dX1_begins_28 : decode cX1_begins 28 = .ok (.iconst 3, 1) := by decide +kernel
theorem dX1_begins_29 : decode cX1_begins 29 = .ok (.if_icmp .ne 10, 3) := by decide +kernel
theorem dX1_begins_32 : decode cX1_begins 32 = .ok (.aload_n 0, 1) := by decide +kernel
theorem dX1_begins_33 : decode cX1_begins 33 = .ok (.getfield 105, 3) := by decide +kernel
theorem dX1_begins_36 : decode cX1_begins 36 = .ok (.goto 12, 3) := by decide +kernel
theorem dX1_begins_39 : decode cX1_begins 39 = .ok (.aload_n 0, 1) := by decide +kernel
theorem dX1_begins_40 : decode cX1_begins 40 = .ok (.aload_n 1, 1) := by decide +kernel
theorem dX1_begins_41 : decode cX1_begins 41 = .ok (.getfield 69, 3) := by decide +kernel
theorem dX1_begins_44 : decode cX1_begins 44 = .ok (.iload_n 2, 1) := by decide +kernel
theorem dX1_begins_45 : decode cX1_begins 45 = .ok (.invokevirtual 124, 3) := by decide +kernel
theorem dX1_begins_48 : decode cX1_begins 48 = .ok (.istore_n 3, 1) := by decide +kernel
theorem dX1_begins_49 : decode cX1_begins 49 = .ok (.iload_n 3, 1) := by decide +kernel
theorem dX1_begins_50 : decode cX1_begins 50 = .ok (.iconst (-1), 1) := by decide +kernel
theorem dX1_begins_51 : decode cX1_begins 51 = .ok (.if_icmp .ne 5, 3) := by decide +kernel
theorem dX1_begins_54 : decode cX1_begins 54 = .ok (.iconst 0, 1) := by decide +kernel
theorem dX1_begins_55 : decode cX1_begins 55 = .ok (.ireturn, 1) := by decide +kernel
theorem dX1_begins_56 : decode cX1_begins 56 = .ok (.aload_n 1, 1) := by decide +kernel
theorem dX1_begins_57 : decode cX1_begins 57 = .ok (.iload_n 2, 1) := by decide +kernel
theorem dX1_begins_58 : decode cX1_begins 58 = .ok (.putfield 74, 3) := by decide +kernel
theorem dX1_begins_61 : decode cX1_begins 61 = .ok (.aload_n 1, 1) := by decide +kernel
theorem dX1_begins_62 : decode cX1_begins 62 = .ok (.iload_n 3, 1) := by decide +kernel
theorem dX1_begins_63 : decode cX1_begins 63 = .ok (.putfield 127, 3) := by decide +kernel
theorem dX1_begins_66 : decode cX1_begins 66 = .ok (.aload_n 1, 1) := by decide +kernel
theorem dX1_begins_67 : decode cX1_begins 67 = .ok (.getfield 69, 3) := by decide +kernel
theorem dX1_begins_70 : decode cX1_begins 70 = .ok (.iconst 3, 1) := by decide +kernel
theorem dX1_begins_71 : decode cX1_begins 71 = .ok (.if_icmp .ne 16, 3) := by decide +kernel
theorem dX1_begins_74 : decode cX1_begins 74 = .ok (.aload_n 0, 1) := by decide +kernel
theorem dX1_begins_75 : decode cX1_begins 75 = .ok (.dup, 1) := by decide +kernel
theorem dX1_begins_76 : decode cX1_begins 76 = .ok (.getfield 105, 3) := by decide +kernel
theorem dX1_begins_79 : decode cX1_begins 79 = .ok (.iconst 1, 1) := by decide +kernel
theorem dX1_begins_80 : decode cX1_begins 80 = .ok (.iadd, 1) := by decide +kernel
theorem dX1_begins_81 : decode cX1_begins 81 = .ok (.putfield 105, 3) := by decide +kernel
theorem dX1_begins_84 : decode cX1_begins 84 = .ok (.goto 20, 3) := by decide +kernel
theorem dX1_begins_87 : decode cX1_begins 87 = .ok (.aload_n 0, 1) := by decide +kernel
theorem dX1_begins_88 : decode cX1_begins 88 = .ok (.getfield 18, 3) := by decide +kernel
theorem dX1_begins_91 : decode cX1_begins 91 = .ok (.aload_n 1, 1) := by decide +kernel
theorem dX1_begins_92 : decode cX1_begins 92 = .ok (.getfield 69, 3) := by decide +kernel
theorem dX1_begins_95 : decode cX1_begins 95 = .ok (.iconst 4, 1) := by decide +kernel
theorem dX1_begins_96 : decode cX1_begins 96 = .ok (.imul, 1) := by decide +kernel
theorem dX1_begins_97 : decode cX1_begins 97 = .ok (.iload_n 3, 1) := by decide +kernel
theorem dX1_begins_98 : decode cX1_begins 98 = .ok (.iadd, 1) := by decide +kernel
theorem dX1_begins_99 : decode cX1_begins 99 = .ok (.aload_n 1, 1) := by decide +kernel
theorem dX1_begins_100 : decode cX1_begins 100 = .ok (.invokevirtual 112, 3) := by decide +kernel
theorem dX1_begins_103 : decode cX1_begins 103 = .ok (.iastore, 1) := by decide +kernel
theorem dX1_begins_104 : decode cX1_begins 104 = .ok (.iconst 1, 1) := by decide +kernel
theorem dX1_begins_105 : decode cX1_begins 105 = .ok (.ireturn, 1) := by decide +kernel
theorem dX1_freeUnit_0 : decode cX1_freeUnit 0 = .ok (.iconst 0, 1) := by decide +kernel
theorem dX1_freeUnit_1 : decode cX1_freeUnit 1 = .ok (.istore_n 3, 1) := by decide +kernel
theorem dX1_freeUnit_2 : decode cX1_freeUnit 2 = .ok (.iload_n 3, 1) := by decide +kernel
theorem dX1_freeUnit_3 : decode cX1_freeUnit 3 = .ok (.aload_n 0, 1) := by decide +kernel
theorem dX1_freeUnit_4 : decode cX1_freeUnit 4 = .ok (.getfield 9, 3) := by decide +kernel
theorem dX1_freeUnit_7 : decode cX1_freeUnit 7 = .ok (.iload_n 1, 1) := by decide +kernel
theorem dX1_freeUnit_8 : decode cX1_freeUnit 8 = .ok (.iaload, 1) := by decide +kernel
theorem dX1_freeUnit_9 : decode cX1_freeUnit 9 = .ok (.if_icmp .ge 25, 3) := by decide +kernel
theorem dX1_freeUnit_12 : decode cX1_freeUnit 12 = .ok (.aload_n 0, 1) := by decide +kernel
theorem dX1_freeUnit_13 : decode cX1_freeUnit 13 = .ok (.getfield 18, 3) := by decide +kernel
theorem dX1_freeUnit_16 : decode cX1_freeUnit 16 = .ok (.iload_n 1, 1) := by decide +kernel
theorem dX1_freeUnit_17 : decode cX1_freeUnit 17 = .ok (.iconst 4, 1) := by decide +kernel
theorem dX1_freeUnit_18 : decode cX1_freeUnit 18 = .ok (.imul, 1) := by decide +kernel
theorem dX1_freeUnit_19 : decode cX1_freeUnit 19 = .ok (.iload_n 3, 1) := by decide +kernel
theorem dX1_freeUnit_20 : decode cX1_freeUnit 20 = .ok (.iadd, 1) := by decide +kernel
theorem dX1_freeUnit_21 : decode cX1_freeUnit 21 = .ok (.iaload, 1) := by decide +kernel
theorem dX1_freeUnit_22 : decode cX1_freeUnit 22 = .ok (.iload_n 2, 1) := by decide +kernel
theorem dX1_freeUnit_23 : decode cX1_freeUnit 23 = .ok (.if_icmp .gt 5, 3) := by decide +kernel
theorem dX1_freeUnit_26 : decode cX1_freeUnit 26 = .ok (.iload_n 3, 1) := by decide +kernel
theorem dX1_freeUnit_27 : decode cX1_freeUnit 27 = .ok (.ireturn, 1) := by decide +kernel
theorem dX1_freeUnit_28 : decode cX1_freeUnit 28 = .ok (.iinc 3 1, 3) := by decide +kernel
theorem dX1_freeUnit_31 : decode cX1_freeUnit 31 = .ok (.goto (-29), 3) := by decide +kernel
theorem dX1_freeUnit_34 : decode cX1_freeUnit 34 = .ok (.iconst (-1), 1) := by decide +kernel
theorem dX1_freeUnit_35 : decode cX1_freeUnit 35 = .ok (.ireturn, 1) := by decide +kernel
theorem dX1_tellThoseBehind_0 : decode cX1_tellThoseBehind 0 = .ok (.aload_n 3, 1) := by decide +kernel
theorem dX1_tellThoseBehind_1 : decode cX1_tellThoseBehind 1 = .ok (.getfield 130, 3) := by decide +kernel
theorem dX1_tellThoseBehind_4 : decode cX1_tellThoseBehind 4 = .ok (.iconst 1, 1) := by decide +kernel
theorem dX1_tellThoseBehind_5 : decode cX1_tellThoseBehind 5 = .ok (.iadd, 1) := by decide +kernel
theorem dX1_tellThoseBehind_6 : decode cX1_tellThoseBehind 6 = .ok (.istore 4, 2) := by decide +kernel
theorem dX1_tellThoseBehind_8 : decode cX1_tellThoseBehind 8 = .ok (.iload 4, 2) := by decide +kernel
theorem dX1_tellThoseBehind_10 : decode cX1_tellThoseBehind 10 = .ok (.aload_n 2, 1) := by decide +kernel
theorem dX1_tellThoseBehind_11 : decode cX1_tellThoseBehind 11 = .ok (.getfield 59, 3) := by decide +kernel
theorem dX1_tellThoseBehind_14 : decode cX1_tellThoseBehind 14 = .ok (.aload_n 2, 1) := by decide +kernel
theorem dX1_tellThoseBehind_15 : decode cX1_tellThoseBehind 15 = .ok (.getfield 64, 3) := by decide +kernel
theorem dX1_tellThoseBehind_18 : decode cX1_tellThoseBehind 18 = .ok (.iadd, 1) := by decide +kernel
theorem dX1_tellThoseBehind_19 : decode cX1_tellThoseBehind 19 = .ok (.if_icmp .ge 55, 3) := by decide +kernel
theorem dX1_tellThoseBehind_22 : decode cX1_tellThoseBehind 22 = .ok (.aload_n 1, 1) := by decide +kernel
theorem dX1_tellThoseBehind_23 : decode cX1_tellThoseBehind 23 = .ok (.getfield 66, 3) := by decide +kernel
theorem dX1_tellThoseBehind_26 : decode cX1_tellThoseBehind 26 = .ok (.iload 4, 2) := by decide +kernel
theorem dX1_tellThoseBehind_28 : decode cX1_tellThoseBehind 28 = .ok (.aaload, 1) := by decide +kernel
theorem dX1_tellThoseBehind_29 : decode cX1_tellThoseBehind 29 = .ok (.astore 5, 2) := by decide +kernel
theorem dX1_tellThoseBehind_31 : decode cX1_tellThoseBehind 31 = .ok (.aload 5, 2) := by decide +kernel
theorem dX1_tellThoseBehind_33 : decode cX1_tellThoseBehind 33 = .ok (.aload_n 3, 1) := by decide +kernel
theorem dX1_tellThoseBehind_34 : decode cX1_tellThoseBehind 34 = .ok (.invokevirtual 89, 3) := by decide +kernel
theorem dX1_tellThoseBehind_37 : decode cX1_tellThoseBehind 37 = .ok (.ifCond .eq 31, 3) := by decide +kernel
theorem dX1_tellThoseBehind_40 : decode cX1_tellThoseBehind 40 = .ok (.aload 5, 2) := by decide +kernel
theorem dX1_tellThoseBehind_42 : decode cX1_tellThoseBehind 42 = .ok (.dup, 1) := by decide +kernel
theorem dX1_tellThoseBehind_43 : decode cX1_tellThoseBehind 43 = .ok (.getfield 80, 3) := by decide +kernel
theorem dX1_tellThoseBehind_46 : decode cX1_tellThoseBehind 46 = .ok (.iconst 1, 1) := by decide +kernel
theorem dX1_tellThoseBehind_47 : decode cX1_tellThoseBehind 47 = .ok (.isub, 1) := by decide +kernel
theorem dX1_tellThoseBehind_48 : decode cX1_tellThoseBehind 48 = .ok (.putfield 80, 3) := by decide +kernel
theorem dX1_tellThoseBehind_51 : decode cX1_tellThoseBehind 51 = .ok (.aload 5, 2) := by decide +kernel
theorem dX1_tellThoseBehind_53 : decode cX1_tellThoseBehind 53 = .ok (.aload 5, 2) := by decide +kernel
theorem dX1_tellThoseBehind_55 : decode cX1_tellThoseBehind 55 = .ok (.getfield 83, 3) := by decide +kernel
theorem dX1_tellThoseBehind_58 : decode cX1_tellThoseBehind 58 = .ok (.aload_n 3, 1) := by decide +kernel
theorem dX1_tellThoseBehind_59 : decode cX1_tellThoseBehind 59 = .ok (.invokevirtual 112, 3) := by decide +kernel
theorem dX1_tellThoseBehind_62 : decode cX1_tellThoseBehind 62 = .ok (.invokestatic 96, 3) := by decide +kernel
theorem dX1_tellThoseBehind_65 : decode cX1_tellThoseBehind 65 = .ok (.putfield 83, 3) := by decide +kernel
theorem dX1_tellThoseBehind_68 : decode cX1_tellThoseBehind 68 = .ok (.iinc 4 1, 3) := by decide +kernel
theorem dX1_tellThoseBehind_71 : decode cX1_tellThoseBehind 71 = .ok (.goto (-63), 3) := by decide +kernel
theorem dX1_tellThoseBehind_74 : decode cX1_tellThoseBehind 74 = .ok (.return_, 1) := by decide +kernel
theorem dX1_noteUses_0 : decode cX1_noteUses 0 = .ok (.aload_n 2, 1) := by decide +kernel
theorem dX1_noteUses_1 : decode cX1_noteUses 1 = .ok (.getfield 59, 3) := by decide +kernel
theorem dX1_noteUses_4 : decode cX1_noteUses 4 = .ok (.istore_n 3, 1) := by decide +kernel
theorem dX1_noteUses_5 : decode cX1_noteUses 5 = .ok (.iload_n 3, 1) := by decide +kernel
theorem dX1_noteUses_6 : decode cX1_noteUses 6 = .ok (.aload_n 2, 1) := by decide +kernel
theorem dX1_noteUses_7 : decode cX1_noteUses 7 = .ok (.getfield 59, 3) := by decide +kernel
theorem dX1_noteUses_10 : decode cX1_noteUses 10 = .ok (.aload_n 2, 1) := by decide +kernel
theorem dX1_noteUses_11 : decode cX1_noteUses 11 = .ok (.getfield 64, 3) := by decide +kernel
theorem dX1_noteUses_14 : decode cX1_noteUses 14 = .ok (.iadd, 1) := by decide +kernel
theorem dX1_noteUses_15 : decode cX1_noteUses 15 = .ok (.if_icmp .ge 47, 3) := by decide +kernel
theorem dX1_noteUses_18 : decode cX1_noteUses 18 = .ok (.aload_n 1, 1) := by decide +kernel
theorem dX1_noteUses_19 : decode cX1_noteUses 19 = .ok (.getfield 66, 3) := by decide +kernel
theorem dX1_noteUses_22 : decode cX1_noteUses 22 = .ok (.iload_n 3, 1) := by decide +kernel
theorem dX1_noteUses_23 : decode cX1_noteUses 23 = .ok (.aaload, 1) := by decide +kernel
theorem dX1_noteUses_24 : decode cX1_noteUses 24 = .ok (.astore 4, 2) := by decide +kernel
theorem dX1_noteUses_26 : decode cX1_noteUses 26 = .ok (.aload_n 0, 1) := by decide +kernel
theorem dX1_noteUses_27 : decode cX1_noteUses 27 = .ok (.aload_n 1, 1) := by decide +kernel
theorem dX1_noteUses_28 : decode cX1_noteUses 28 = .ok (.aload 4, 2) := by decide +kernel
theorem dX1_noteUses_30 : decode cX1_noteUses 30 = .ok (.getfield 133, 3) := by decide +kernel
theorem dX1_noteUses_33 : decode cX1_noteUses 33 = .ok (.aload 4, 2) := by decide +kernel
theorem dX1_noteUses_35 : decode cX1_noteUses 35 = .ok (.getfield 74, 3) := by decide +kernel
theorem dX1_noteUses_38 : decode cX1_noteUses 38 = .ok (.invokevirtual 136, 3) := by decide +kernel
theorem dX1_noteUses_41 : decode cX1_noteUses 41 = .ok (.aload_n 0, 1) := by decide +kernel
theorem dX1_noteUses_42 : decode cX1_noteUses 42 = .ok (.aload_n 1, 1) := by decide +kernel
theorem dX1_noteUses_43 : decode cX1_noteUses 43 = .ok (.aload 4, 2) := by decide +kernel
theorem dX1_noteUses_45 : decode cX1_noteUses 45 = .ok (.getfield 140, 3) := by decide +kernel
theorem dX1_noteUses_48 : decode cX1_noteUses 48 = .ok (.aload 4, 2) := by decide +kernel
theorem dX1_noteUses_50 : decode cX1_noteUses 50 = .ok (.getfield 74, 3) := by decide +kernel
theorem dX1_noteUses_53 : decode cX1_noteUses 53 = .ok (.invokevirtual 136, 3) := by decide +kernel
theorem dX1_noteUses_56 : decode cX1_noteUses 56 = .ok (.iinc 3 1, 3) := by decide +kernel
theorem dX1_noteUses_59 : decode cX1_noteUses 59 = .ok (.goto (-54), 3) := by decide +kernel
theorem dX1_noteUses_62 : decode cX1_noteUses 62 = .ok (.aload_n 2, 1) := by decide +kernel
theorem dX1_noteUses_63 : decode cX1_noteUses 63 = .ok (.getfield 143, 3) := by decide +kernel
theorem dX1_noteUses_66 : decode cX1_noteUses 66 = .ok (.ifCond .eq 18, 3) := by decide +kernel
theorem dX1_noteUses_69 : decode cX1_noteUses 69 = .ok (.aload_n 0, 1) := by decide +kernel
theorem dX1_noteUses_70 : decode cX1_noteUses 70 = .ok (.aload_n 1, 1) := by decide +kernel
theorem dX1_noteUses_71 : decode cX1_noteUses 71 = .ok (.aload_n 2, 1) := by decide +kernel
theorem dX1_noteUses_72 : decode cX1_noteUses 72 = .ok (.getfield 147, 3) := by decide +kernel
theorem dX1_noteUses_75 : decode cX1_noteUses 75 = .ok (.aload_n 2, 1) := by decide +kernel
theorem dX1_noteUses_76 : decode cX1_noteUses 76 = .ok (.getfield 102, 3) := by decide +kernel
theorem dX1_noteUses_79 : decode cX1_noteUses 79 = .ok (.iconst 1, 1) := by decide +kernel
theorem dX1_noteUses_80 : decode cX1_noteUses 80 = .ok (.isub, 1) := by decide +kernel
theorem dX1_noteUses_81 : decode cX1_noteUses 81 = .ok (.invokevirtual 136, 3) := by decide +kernel
theorem dX1_noteUses_84 : decode cX1_noteUses 84 = .ok (.return_, 1) := by decide +kernel
theorem dX1_noteUse_0 : decode cX1_noteUse 0 = .ok (.iload_n 2, 1) := by decide +kernel
theorem dX1_noteUse_1 : decode cX1_noteUse 1 = .ok (.invokestatic 150, 3) := by decide +kernel
theorem dX1_noteUse_4 : decode cX1_noteUse 4 = .ok (.ifCond .eq 28, 3) := by decide +kernel
theorem dX1_noteUse_7 : decode cX1_noteUse 7 = .ok (.aload_n 1, 1) := by decide +kernel
theorem dX1_noteUse_8 : decode cX1_noteUse 8 = .ok (.getfield 66, 3) := by decide +kernel
theorem dX1_noteUse_11 : decode cX1_noteUse 11 = .ok (.iload_n 2, 1) := by decide +kernel
theorem dX1_noteUse_12 : decode cX1_noteUse 12 = .ok (.invokestatic 156, 3) := by decide +kernel
theorem dX1_noteUse_15 : decode cX1_noteUse 15 = .ok (.aaload, 1) := by decide +kernel
theorem dX1_noteUse_16 : decode cX1_noteUse 16 = .ok (.astore 4, 2) := by decide +kernel
theorem dX1_noteUse_18 : decode cX1_noteUse 18 = .ok (.aload 4, 2) := by decide +kernel
theorem dX1_noteUse_20 : decode cX1_noteUse 20 = .ok (.aload 4, 2) := by decide +kernel
theorem dX1_noteUse_22 : decode cX1_noteUse 22 = .ok (.getfield 86, 3) := by decide +kernel
theorem dX1_noteUse_25 : decode cX1_noteUse 25 = .ok (.iload_n 3, 1) := by decide +kernel
theorem dX1_noteUse_26 : decode cX1_noteUse 26 = .ok (.invokestatic 96, 3) := by decide +kernel
theorem dX1_noteUse_29 : decode cX1_noteUse 29 = .ok (.putfield 86, 3) := by decide +kernel
theorem dX1_noteUse_32 : decode cX1_noteUse 32 = .ok (.return_, 1) := by decide +kernel
theorem dX1_bindRegisters_0 : decode cX1_bindRegisters 0 = .ok (.iconst 1, 1) := by decide +kernel
theorem dX1_bindRegisters_1 : decode cX1_bindRegisters 1 = .ok (.istore_n 3, 1) := by decide +kernel
theorem dX1_bindRegisters_2 : decode cX1_bindRegisters 2 = .ok (.iload_n 3, 1) := by decide +kernel
theorem dX1_bindRegisters_3 : decode cX1_bindRegisters 3 = .ok (.aload_n 2, 1) := by decide +kernel
theorem dX1_bindRegisters_4 : decode cX1_bindRegisters 4 = .ok (.getfield 102, 3) := by decide +kernel
theorem dX1_bindRegisters_7 : decode cX1_bindRegisters 7 = .ok (.if_icmp .gt 76, 3) := by decide +kernel
theorem dX1_bindRegisters_10 : decode cX1_bindRegisters 10 = .ok (.aload_n 2, 1) := by decide +kernel
theorem dX1_bindRegisters_11 : decode cX1_bindRegisters 11 = .ok (.getfield 59, 3) := by decide +kernel
theorem dX1_bindRegisters_14 : decode cX1_bindRegisters 14 = .ok (.istore 4, 2) := by decide +kernel
theorem dX1_bindRegisters_16 : decode cX1_bindRegisters 16 = .ok (.iload 4, 2) := by decide +kernel
theorem dX1_bindRegisters_18 : decode cX1_bindRegisters 18 = .ok (.aload_n 2, 1) := by decide +kernel
theorem dX1_bindRegisters_19 : decode cX1_bindRegisters 19 = .ok (.getfield 59, 3) := by decide +kernel
theorem dX1_bindRegisters_22 : decode cX1_bindRegisters 22 = .ok (.aload_n 2, 1) := by decide +kernel
theorem dX1_bindRegisters_23 : decode cX1_bindRegisters 23 = .ok (.getfield 64, 3) := by decide +kernel
theorem dX1_bindRegisters_26 : decode cX1_bindRegisters 26 = .ok (.iadd, 1) := by decide +kernel
theorem dX1_bindRegisters_27 : decode cX1_bindRegisters 27 = .ok (.if_icmp .ge 50, 3) := by decide +kernel
theorem dX1_bindRegisters_30 : decode cX1_bindRegisters 30 = .ok (.aload_n 1, 1) := by decide +kernel
theorem dX1_bindRegisters_31 : decode cX1_bindRegisters 31 = .ok (.getfield 66, 3) := by decide +kernel
theorem dX1_bindRegisters_34 : decode cX1_bindRegisters 34 = .ok (.iload 4, 2) := by decide +kernel
theorem dX1_bindRegisters_36 : decode cX1_bindRegisters 36 = .ok (.aaload, 1) := by decide +kernel
theorem dX1_bindRegisters_37 : decode cX1_bindRegisters 37 = .ok (.astore 5, 2) := by decide +kernel
theorem dX1_bindRegisters_39 : decode cX1_bindRegisters 39 = .ok (.aload 5, 2) := by decide +kernel
theorem dX1_bindRegisters_41 : decode cX1_bindRegisters 41 = .ok (.invokevirtual 112, 3) := by decide +kernel
theorem dX1_bindRegisters_44 : decode cX1_bindRegisters 44 = .ok (.iload_n 3, 1) := by decide +kernel
theorem dX1_bindRegisters_45 : decode cX1_bindRegisters 45 = .ok (.if_icmp .ne 26, 3) := by decide +kernel
theorem dX1_bindRegisters_48 : decode cX1_bindRegisters 48 = .ok (.aload 5, 2) := by decide +kernel
theorem dX1_bindRegisters_50 : decode cX1_bindRegisters 50 = .ok (.invokevirtual 160, 3) := by decide +kernel
theorem dX1_bindRegisters_53 : decode cX1_bindRegisters 53 = .ok (.ifCond .eq 18, 3) := by decide +kernel
theorem dX1_bindRegisters_56 : decode cX1_bindRegisters 56 = .ok (.aload 5, 2) := by decide +kernel
theorem dX1_bindRegisters_58 : decode cX1_bindRegisters 58 = .ok (.aload_n 0, 1) := by decide +kernel
theorem dX1_bindRegisters_59 : decode cX1_bindRegisters 59 = .ok (.iload_n 3, 1) := by decide +kernel
theorem dX1_bindRegisters_60 : decode cX1_bindRegisters 60 = .ok (.aload 5, 2) := by decide +kernel
theorem dX1_bindRegisters_62 : decode cX1_bindRegisters 62 = .ok (.getfield 86, 3) := by decide +kernel
theorem dX1_bindRegisters_65 : decode cX1_bindRegisters 65 = .ok (.invokevirtual 163, 3) := by decide +kernel
theorem dX1_bindRegisters_68 : decode cX1_bindRegisters 68 = .ok (.putfield 77, 3) := by decide +kernel
theorem dX1_bindRegisters_71 : decode cX1_bindRegisters 71 = .ok (.iinc 4 1, 3) := by decide +kernel
theorem dX1_bindRegisters_74 : decode cX1_bindRegisters 74 = .ok (.goto (-58), 3) := by decide +kernel
theorem dX1_bindRegisters_77 : decode cX1_bindRegisters 77 = .ok (.iinc 3 1, 3) := by decide +kernel
theorem dX1_bindRegisters_80 : decode cX1_bindRegisters 80 = .ok (.goto (-78), 3) := by decide +kernel
theorem dX1_bindRegisters_83 : decode cX1_bindRegisters 83 = .ok (.return_, 1) := by decide +kernel
theorem dX1_freeRegister_0 : decode cX1_freeRegister 0 = .ok (.iload_n 2, 1) := by decide +kernel
theorem dX1_freeRegister_1 : decode cX1_freeRegister 1 = .ok (.iload_n 1, 1) := by decide +kernel
theorem dX1_freeRegister_2 : decode cX1_freeRegister 2 = .ok (.if_icmp .ge 5, 3) := by decide +kernel
theorem dX1_freeRegister_5 : decode cX1_freeRegister 5 = .ok (.iconst 0, 1) := by decide +kernel
theorem dX1_freeRegister_6 : decode cX1_freeRegister 6 = .ok (.ireturn, 1) := by decide +kernel
theorem dX1_freeRegister_7 : decode cX1_freeRegister 7 = .ok (.iconst 0, 1) := by decide +kernel
theorem dX1_freeRegister_8 : decode cX1_freeRegister 8 = .ok (.istore_n 3, 1) := by decide +kernel
theorem dX1_freeRegister_9 : decode cX1_freeRegister 9 = .ok (.iload_n 3, 1) := by decide +kernel
theorem dX1_freeRegister_10 : decode cX1_freeRegister 10 = .ok (.sipush 200, 3) := by decide +kernel
theorem dX1_freeRegister_13 : decode cX1_freeRegister 13 = .ok (.if_icmp .ge 28, 3) := by decide +kernel
theorem dX1_freeRegister_16 : decode cX1_freeRegister 16 = .ok (.aload_n 0, 1) := by decide +kernel
theorem dX1_freeRegister_17 : decode cX1_freeRegister 17 = .ok (.getfield 21, 3) := by decide +kernel
theorem dX1_freeRegister_20 : decode cX1_freeRegister 20 = .ok (.iload_n 3, 1) := by decide +kernel
theorem dX1_freeRegister_21 : decode cX1_freeRegister 21 = .ok (.iaload, 1) := by decide +kernel
theorem dX1_freeRegister_22 : decode cX1_freeRegister 22 = .ok (.iload_n 1, 1) := by decide +kernel
theorem dX1_freeRegister_23 : decode cX1_freeRegister 23 = .ok (.if_icmp .ge 12, 3) := by decide +kernel
theorem dX1_freeRegister_26 : decode cX1_freeRegister 26 = .ok (.aload_n 0, 1) := by decide +kernel
theorem dX1_freeRegister_27 : decode cX1_freeRegister 27 = .ok (.getfield 21, 3) := by decide +kernel
theorem dX1_freeRegister_30 : decode cX1_freeRegister 30 = .ok (.iload_n 3, 1) := by decide +kernel
theorem dX1_freeRegister_31 : decode cX1_freeRegister 31 = .ok (.iload_n 2, 1) := by decide +kernel
theorem dX1_freeRegister_32 : decode cX1_freeRegister 32 = .ok (.iastore, 1) := by decide +kernel
theorem dX1_freeRegister_33 : decode cX1_freeRegister 33 = .ok (.iload_n 3, 1) := by decide +kernel
theorem dX1_freeRegister_34 : decode cX1_freeRegister 34 = .ok (.ireturn, 1) := by decide +kernel
theorem dX1_freeRegister_35 : decode cX1_freeRegister 35 = .ok (.iinc 3 1, 3) := by decide +kernel
theorem dX1_freeRegister_38 : decode cX1_freeRegister 38 = .ok (.goto (-29), 3) := by decide +kernel
theorem dX1_freeRegister_41 : decode cX1_freeRegister 41 = .ok (.iconst (-1), 1) := by decide +kernel
theorem dX1_freeRegister_42 : decode cX1_freeRegister 42 = .ok (.ireturn, 1) := by decide +kernel
theorem dX2_init_0 : decode cX2_init 0 = .ok (.aload_n 0, 1) := by decide +kernel
theorem dX2_init_1 : decode cX2_init 1 = .ok (.invokespecial 3, 3) := by decide +kernel
theorem dX2_init_4 : decode cX2_init 4 = .ok (.aload_n 0, 1) := by decide +kernel
theorem dX2_init_5 : decode cX2_init 5 = .ok (.bipush 8, 2) := by decide +kernel
theorem dX2_init_7 : decode cX2_init 7 = .ok (.newarray .int, 2) := by decide +kernel
theorem dX2_init_9 : decode cX2_init 9 = .ok (.putfield 9, 3) := by decide +kernel
theorem dX2_init_12 : decode cX2_init 12 = .ok (.aload_n 0, 1) := by decide +kernel
theorem dX2_init_13 : decode cX2_init 13 = .ok (.bipush 16, 2) := by decide +kernel
theorem dX2_init_15 : decode cX2_init 15 = .ok (.newarray .int, 2) := by decide +kernel
theorem dX2_init_17 : decode cX2_init 17 = .ok (.putfield 15, 3) := by decide +kernel
theorem dX2_init_20 : decode cX2_init 20 = .ok (.aload_n 0, 1) := by decide +kernel
theorem dX2_init_21 : decode cX2_init 21 = .ok (.sipush 200, 3) := by decide +kernel
theorem dX2_init_24 : decode cX2_init 24 = .ok (.newarray .int, 2) := by decide +kernel
theorem dX2_init_26 : decode cX2_init 26 = .ok (.putfield 18, 3) := by decide +kernel
theorem dX2_init_29 : decode cX2_init 29 = .ok (.return_, 1) := by decide +kernel
theorem dX2_begin_0 : decode cX2_begin 0 = .ok (.aload_n 0, 1) := by decide +kernel
theorem dX2_begin_1 : decode cX2_begin 1 = .ok (.aload_n 1, 1) := by decide +kernel
theorem dX2_begin_2 : decode cX2_begin 2 = .ok (.putfield 21, 3) := by decide +kernel
theorem dX2_begin_5 : decode cX2_begin 5 = .ok (.aload_n 0, 1) := by decide +kernel
theorem dX2_begin_6 : decode cX2_begin 6 = .ok (.aload_n 1, 1) := by decide +kernel
theorem dX2_begin_7 : decode cX2_begin 7 = .ok (.getfield 25, 3) := by decide +kernel
theorem dX2_begin_10 : decode cX2_begin 10 = .ok (.ifCond .le 7, 3) := by decide +kernel
theorem dX2_begin_13 : decode cX2_begin 13 = .ok (.iconst 0, 1) := by decide +kernel
theorem dX2_begin_14 : decode cX2_begin 14 = .ok (.goto 4, 3) := by decide +kernel
theorem dX2_begin_17 : decode cX2_begin 17 = .ok (.iconst (-1), 1) := by decide +kernel
theorem dX2_begin_18 : decode cX2_begin 18 = .ok (.putfield 31, 3) := by decide +kernel
theorem dX2_begin_21 : decode cX2_begin 21 = .ok (.aload_n 0, 1) := by decide +kernel
theorem dX2_begin_22 : decode cX2_begin 22 = .ok (.lconst 0, 1) := by decide +kernel
theorem dX2_begin_23 : decode cX2_begin 23 = .ok (.putfield 34, 3) := by decide +kernel
theorem dX2_begin_26 : decode cX2_begin 26 = .ok (.return_, 1) := by decide +kernel
theorem dX2_advance_0 : decode cX2_advance 0 = .ok (.iconst 0, 1) := by decide +kernel
theorem dX2_advance_1 : decode cX2_advance 1 = .ok (.istore_n 2, 1) := by decide +kernel
theorem dX2_advance_2 : decode cX2_advance 2 = .ok (.iconst 0, 1) := by decide +kernel
theorem dX2_advance_3 : decode cX2_advance 3 = .ok (.istore_n 3, 1) := by decide +kernel
theorem dX2_advance_4 : decode cX2_advance 4 = .ok (.iload_n 3, 1) := by decide +kernel
theorem dX2_advance_5 : decode cX2_advance 5 = .ok (.iload_n 1, 1) := by decide +kernel
theorem dX2_advance_6 : decode cX2_advance 6 = .ok (.if_icmp .ge 50, 3) := by decide +kernel
theorem dX2_advance_9 : decode cX2_advance 9 = .ok (.iload_n 2, 1) := by decide +kernel
theorem dX2_advance_10 : decode cX2_advance 10 = .ok (.iload_n 1, 1) := by decide +kernel
theorem dX2_advance_11 : decode cX2_advance 11 = .ok (.if_icmp .ge 45, 3) := by decide +kernel
theorem dX2_advance_14 : decode cX2_advance 14 = .ok (.aload_n 0, 1) := by decide +kernel
theorem dX2_advance_15 : decode cX2_advance 15 = .ok (.getfield 31, 3) := by decide +kernel
theorem dX2_advance_18 : decode cX2_advance 18 = .ok (.iconst (-1), 1) := by decide +kernel
theorem dX2_advance_19 : decode cX2_advance 19 = .ok (.if_icmp .eq 37, 3) := by decide +kernel
theorem dX2_advance_22 : decode cX2_advance 22 = .ok (.aload_n 0, 1) := by decide +kernel
theorem dX2_advance_23 : decode cX2_advance 23 = .ok (.getfield 21, 3) := by decide +kernel
theorem dX2_advance_26 : decode cX2_advance 26 = .ok (.getfield 38, 3) := by decide +kernel
theorem dX2_advance_29 : decode cX2_advance 29 = .ok (.aload_n 0, 1) := by decide +kernel
theorem dX2_advance_30 : decode cX2_advance 30 = .ok (.getfield 31, 3) := by decide +kernel
theorem dX2_advance_33 : decode cX2_advance 33 = .ok (.aaload, 1) := by decide +kernel
theorem dX2_advance_34 : decode cX2_advance 34 = .ok (.astore 4, 2) := by decide +kernel
theorem dX2_advance_36 : decode cX2_advance 36 = .ok (.aload_n 0, 1) := by decide +kernel
theorem dX2_advance_37 : decode cX2_advance 37 = .ok (.aload 4, 2) := by decide +kernel
theorem dX2_advance_39 : decode cX2_advance 39 = .ok (.invokevirtual 42, 3) := by decide +kernel
theorem dX2_advance_42 : decode cX2_advance 42 = .ok (.iload_n 2, 1) := by decide +kernel
theorem dX2_advance_43 : decode cX2_advance 43 = .ok (.aload 4, 2) := by decide +kernel
theorem dX2_advance_45 : decode cX2_advance 45 = .ok (.getfield 46, 3) := by decide +kernel
theorem dX2_advance_48 : decode cX2_advance 48 = .ok (.iadd, 1) := by decide +kernel
theorem dX2_advance_49 : decode cX2_advance 49 = .ok (.istore_n 2, 1) := by decide +kernel
theorem dX2_advance_50 : decode cX2_advance 50 = .ok (.iinc 3 1, 3) := by decide +kernel
theorem dX2_advance_53 : decode cX2_advance 53 = .ok (.goto (-49), 3) := by decide +kernel
theorem dX2_advance_56 : decode cX2_advance 56 = .ok (.aload_n 0, 1) := by decide +kernel
theorem dX2_advance_57 : decode cX2_advance 57 = .ok (.dup, 1) := by decide +kernel
theorem dX2_advance_58 : decode cX2_advance 58 = .ok (.getfield 34, 3) := by decide +kernel
theorem dX2_advance_61 : decode cX2_advance 61 = .ok (.iload_n 2, 1) := by decide +kernel
theorem dX2_advance_62 : decode cX2_advance 62 = .ok (.i2l, 1) := by decide +kernel
theorem dX2_advance_63 : decode cX2_advance 63 = .ok (.ladd, 1) := by decide +kernel
theorem dX2_advance_64 : decode cX2_advance 64 = .ok (.putfield 34, 3) := by decide +kernel
theorem dX2_advance_67 : decode cX2_advance 67 = .ok (.iload_n 2, 1) := by decide +kernel
theorem dX2_advance_68 : decode cX2_advance 68 = .ok (.ireturn, 1) := by decide +kernel
theorem dX2_perform_0 : decode cX2_perform 0 = .ok (.aload_n 1, 1) := by decide +kernel
theorem dX2_perform_1 : decode cX2_perform 1 = .ok (.getfield 51, 3) := by decide +kernel
theorem dX2_perform_4 : decode cX2_perform 4 = .ok (.istore_n 2, 1) := by decide +kernel
theorem dX2_perform_5 : decode cX2_perform 5 = .ok (.iload_n 2, 1) := by decide +kernel
theorem dX2_perform_6 : decode cX2_perform 6 = .ok (.aload_n 1, 1) := by decide +kernel
theorem dX2_perform_7 : decode cX2_perform 7 = .ok (.getfield 51, 3) := by decide +kernel
theorem dX2_perform_10 : decode cX2_perform 10 = .ok (.aload_n 1, 1) := by decide +kernel
theorem dX2_perform_11 : decode cX2_perform 11 = .ok (.getfield 54, 3) := by decide +kernel
theorem dX2_perform_14 : decode cX2_perform 14 = .ok (.iadd, 1) := by decide +kernel
theorem dX2_perform_15 : decode cX2_perform 15 = .ok (.if_icmp .ge 53, 3) := by decide +kernel
theorem dX2_perform_18 : decode cX2_perform 18 = .ok (.aload_n 0, 1) := by decide +kernel
theorem dX2_perform_19 : decode cX2_perform 19 = .ok (.getfield 21, 3) := by decide +kernel
theorem dX2_perform_22 : decode cX2_perform 22 = .ok (.getfield 57, 3) := by decide +kernel
theorem dX2_perform_25 : decode cX2_perform 25 = .ok (.iload_n 2, 1) := by decide +kernel
theorem dX2_perform_26 : decode cX2_perform 26 = .ok (.aaload, 1) := by decide +kernel
theorem dX2_perform_27 : decode cX2_perform 27 = .ok (.astore_n 3, 1) := by decide +kernel
theorem dX2_perform_28 : decode cX2_perform 28 = .ok (.aload_n 0, 1) := by decide +kernel
theorem dX2_perform_29 : decode cX2_perform 29 = .ok (.getfield 18, 3) := by decide +kernel
theorem dX2_perform_32 : decode cX2_perform 32 = .ok (.iload_n 2, 1) := by decide +kernel
theorem dX2_perform_33 : decode cX2_perform 33 = .ok (.aload_n 0, 1) := by decide +kernel
theorem dX2_perform_34 : decode cX2_perform 34 = .ok (.aload_n 3, 1) := by decide +kernel
theorem dX2_perform_35 : decode cX2_perform 35 = .ok (.invokevirtual 61, 3) := by decide +kernel
theorem dX2_perform_38 : decode cX2_perform 38 = .ok (.iastore, 1) := by decide +kernel
theorem dX2_perform_39 : decode cX2_perform 39 = .ok (.aload_n 3, 1) := by decide +kernel
theorem dX2_perform_40 : decode cX2_perform 40 = .ok (.getfield 65, 3) := by decide +kernel
theorem dX2_perform_43 : decode cX2_perform 43 = .ok (.iconst (-1), 1) := by decide +kernel
theorem dX2_perform_44 : decode cX2_perform 44 = .ok (.if_icmp .eq 18, 3) := by decide +kernel
theorem dX2_perform_47 : decode cX2_perform 47 = .ok (.aload_n 0, 1) := by decide +kernel
theorem dX2_perform_48 : decode cX2_perform 48 = .ok (.getfield 9, 3) := by decide +kernel
theorem dX2_perform_51 : decode cX2_perform 51 = .ok (.aload_n 3, 1) := by decide +kernel
theorem dX2_perform_52 : decode cX2_perform 52 = .ok (.getfield 65, 3) := by decide +kernel
theorem dX2_perform_55 : decode cX2_perform 55 = .ok (.aload_n 0, 1) := by decide +kernel
theorem dX2_perform_56 : decode cX2_perform 56 = .ok (.getfield 18, 3) := by decide +kernel
theorem dX2_perform_59 : decode cX2_perform 59 = .ok (.iload_n 2, 1) := by decide +kernel
theorem dX2_perform_60 : decode cX2_perform 60 = .ok (.iaload, 1) := by decide +kernel
theorem dX2_perform_61 : decode cX2_perform 61 = .ok (.iastore, 1) := by decide +kernel
theorem dX2_perform_62 : decode cX2_perform 62 = .ok (.iinc 2 1, 3) := by decide +kernel
theorem dX2_perform_65 : decode cX2_perform 65 = .ok (.goto (-60), 3) := by decide +kernel
theorem dX2_perform_68 : decode cX2_perform 68 = .ok (.aload_n 1, 1) := by decide +kernel
theorem dX2_perform_69 : decode cX2_perform 69 = .ok (.getfield 70, 3) := by decide +kernel
theorem dX2_perform_72 : decode cX2_perform 72 = .ok (.ifCond .eq 14, 3) := by decide +kernel
theorem dX2_perform_75 : decode cX2_perform 75 = .ok (.aload_n 0, 1) := by decide +kernel
theorem dX2_perform_76 : decode cX2_perform 76 = .ok (.aload_n 1, 1) := by decide +kernel
theorem dX2_perform_77 : decode cX2_perform 77 = .ok (.getfield 74, 3) := by decide +kernel
theorem dX2_perform_80 : decode cX2_perform 80 = .ok (.invokevirtual 77, 3) := by decide +kernel
theorem dX2_perform_83 : decode cX2_perform 83 = .ok (.ifCond .eq 7, 3) := by decide +kernel
theorem dX2_perform_86 : decode cX2_perform 86 = .ok (.iconst 1, 1) := by decide +kernel
theorem dX2_perform_87 : decode cX2_perform 87 = .ok (.goto 4, 3) := by decide +kernel
theorem dX2_perform_90 : decode cX2_perform 90 = .ok (.iconst 0, 1) := by decide +kernel
theorem dX2_perform_91 : decode cX2_perform 91 = .ok (.istore_n 2, 1) := by decide +kernel
theorem dX2_perform_92 : decode cX2_perform 92 = .ok (.aload_n 0, 1) := by decide +kernel
theorem dX2_perform_93 : decode cX2_perform 93 = .ok (.iload_n 2, 1) := by decide +kernel
theorem dX2_perform_94 : decode cX2_perform 94 = .ok (.ifCond .eq 10, 3) := by decide +kernel
theorem dX2_perform_97 : decode cX2_perform 97 = .ok (.aload_n 1, 1) := by decide +kernel
theorem dX2_perform_98 : decode cX2_perform 98 = .ok (.getfield 81, 3) := by decide +kernel
theorem dX2_perform_101 : decode cX2_perform 101 = .ok (.goto 7, 3) := by decide +kernel
theorem dX2_perform_104 : decode cX2_perform 104 = .ok (.aload_n 1, 1) := by decide +kernel
theorem dX2_perform_105 : decode cX2_perform 105 = .ok (.getfield 84, 3) := by decide +kernel
theorem dX2_perform_108 : decode cX2_perform 108 = .ok (.putfield 31, 3) := by decide +kernel
theorem dX2_perform_111 : decode cX2_perform 111 = .ok (.return_, 1) := by decide +kernel
theorem dX2_outcome_0 : decode cX2_outcome 0 = .ok (.aload_n 0, 1) := by decide +kernel
theorem dX2_outcome_1 : decode cX2_outcome 1 = .ok (.aload_n 1, 1) := by decide +kernel
theorem dX2_outcome_2 : decode cX2_outcome 2 = .ok (.getfield 87, 3) := by decide +kernel
theorem dX2_outcome_5 : decode cX2_outcome 5 = .ok (.invokevirtual 77, 3) := by decide +kernel
theorem dX2_outcome_8 : decode cX2_outcome 8 = .ok (.istore_n 2, 1) := by decide +kernel
theorem dX2_outcome_9 : decode cX2_outcome 9 = .ok (.aload_n 0, 1) := by decide +kernel
theorem dX2_outcome_10 : decode cX2_outcome 10 = .ok (.aload_n 1, 1) := by decide +kernel
theorem dX2_outcome_11 : decode cX2_outcome 11 = .ok (.getfield 90, 3) := by decide +kernel
theorem dX2_outcome_14 : decode cX2_outcome 14 = .ok (.invokevirtual 77, 3) := by decide +kernel
theorem dX2_outcome_17 : decode cX2_outcome 17 = .ok (.istore_n 3, 1) := by decide +kernel
theorem dX2_outcome_18 : decode cX2_outcome 18 = .ok (.aload_n 1, 1) := by decide +kernel
theorem dX2_outcome_19 : decode cX2_outcome 19 = .ok (.getfield 93, 3) := by decide +kernel
theorem dX2_outcome_22 : decode cX2_outcome 22 = .ok (.lookupswitch 122 #[(1, 100), (2, 110), (42, 74), (43, 66), (45, 70), (60, 78), (61, 89)], 66) := by decide +kernel
theorem dX2_outcome_88 : decode cX2_outcome 88 = .ok (.iload_n 2, 1) := by decide +kernel
theorem dX2_outcome_89 : decode cX2_outcome 89 = .ok (.iload_n 3, 1) := by decide +kernel
theorem dX2_outcome_90 : decode cX2_outcome 90 = .ok (.iadd, 1) := by decide +kernel
theorem dX2_outcome_91 : decode cX2_outcome 91 = .ok (.ireturn, 1) := by decide +kernel
theorem dX2_outcome_92 : decode cX2_outcome 92 = .ok (.iload_n 2, 1) := by decide +kernel
theorem dX2_outcome_93 : decode cX2_outcome 93 = .ok (.iload_n 3, 1) := by decide +kernel
theorem dX2_outcome_94 : decode cX2_outcome 94 = .ok (.isub, 1) := by decide +kernel
theorem dX2_outcome_95 : decode cX2_outcome 95 = .ok (.ireturn, 1) := by decide +kernel
theorem dX2_outcome_96 : decode cX2_outcome 96 = .ok (.iload_n 2, 1) := by decide +kernel
theorem dX2_outcome_97 : decode cX2_outcome 97 = .ok (.iload_n 3, 1) := by decide +kernel
theorem dX2_outcome_98 : decode cX2_outcome 98 = .ok (.imul, 1) := by decide +kernel
theorem dX2_outcome_99 : decode cX2_outcome 99 = .ok (.ireturn, 1) := by decide +kernel
theorem dX2_outcome_100 : decode cX2_outcome 100 = .ok (.iload_n 2, 1) := by decide +kernel
theorem dX2_outcome_101 : decode cX2_outcome 101 = .ok (.iload_n 3, 1) := by decide +kernel
theorem dX2_outcome_102 : decode cX2_outcome 102 = .ok (.if_icmp .ge 7, 3) := by decide +kernel
theorem dX2_outcome_105 : decode cX2_outcome 105 = .ok (.iconst 1, 1) := by decide +kernel
theorem dX2_outcome_106 : decode cX2_outcome 106 = .ok (.goto 4, 3) := by decide +kernel
theorem dX2_outcome_109 : decode cX2_outcome 109 = .ok (.iconst 0, 1) := by decide +kernel
theorem dX2_outcome_110 : decode cX2_outcome 110 = .ok (.ireturn, 1) := by decide +kernel
theorem dX2_outcome_111 : decode cX2_outcome 111 = .ok (.iload_n 2, 1) := by decide +kernel
theorem dX2_outcome_112 : decode cX2_outcome 112 = .ok (.iload_n 3, 1) := by decide +kernel
theorem dX2_outcome_113 : decode cX2_outcome 113 = .ok (.if_icmp .ne 7, 3) := by decide +kernel
theorem dX2_outcome_116 : decode cX2_outcome 116 = .ok (.iconst 1, 1) := by decide +kernel
theorem dX2_outcome_117 : decode cX2_outcome 117 = .ok (.goto 4, 3) := by decide +kernel
theorem dX2_outcome_120 : decode cX2_outcome 120 = .ok (.iconst 0, 1) := by decide +kernel
theorem dX2_outcome_121 : decode cX2_outcome 121 = .ok (.ireturn, 1) := by decide +kernel
theorem dX2_outcome_122 : decode cX2_outcome 122 = .ok (.aload_n 0, 1) := by decide +kernel
theorem dX2_outcome_123 : decode cX2_outcome 123 = .ok (.getfield 15, 3) := by decide +kernel
theorem dX2_outcome_126 : decode cX2_outcome 126 = .ok (.iload_n 2, 1) := by decide +kernel
theorem dX2_outcome_127 : decode cX2_outcome 127 = .ok (.bipush 15, 2) := by decide +kernel
theorem dX2_outcome_129 : decode cX2_outcome 129 = .ok (.iand, 1) := by decide +kernel
theorem dX2_outcome_130 : decode cX2_outcome 130 = .ok (.iaload, 1) := by decide +kernel
theorem dX2_outcome_131 : decode cX2_outcome 131 = .ok (.ireturn, 1) := by decide +kernel
theorem dX2_outcome_132 : decode cX2_outcome 132 = .ok (.aload_n 0, 1) := by decide +kernel
theorem dX2_outcome_133 : decode cX2_outcome 133 = .ok (.getfield 15, 3) := by decide +kernel
theorem dX2_outcome_136 : decode cX2_outcome 136 = .ok (.iload_n 2, 1) := by decide +kernel
theorem dX2_outcome_137 : decode cX2_outcome 137 = .ok (.bipush 15, 2) := by decide +kernel
theorem dX2_outcome_139 : decode cX2_outcome 139 = .ok (.iand, 1) := by decide +kernel
theorem dX2_outcome_140 : decode cX2_outcome 140 = .ok (.iload_n 3, 1) := by decide +kernel
theorem dX2_outcome_141 : decode cX2_outcome 141 = .ok (.iastore, 1) := by decide +kernel
theorem dX2_outcome_142 : decode cX2_outcome 142 = .ok (.iload_n 3, 1) := by decide +kernel
theorem dX2_outcome_143 : decode cX2_outcome 143 = .ok (.ireturn, 1) := by decide +kernel
theorem dX2_outcome_144 : decode cX2_outcome 144 = .ok (.iload_n 2, 1) := by decide +kernel
theorem dX2_outcome_145 : decode cX2_outcome 145 = .ok (.ireturn, 1) := by decide +kernel
theorem dX2_taken_0 : decode cX2_taken 0 = .ok (.iload_n 1, 1) := by decide +kernel
theorem dX2_taken_1 : decode cX2_taken 1 = .ok (.invokestatic 96, 3) := by decide +kernel
theorem dX2_taken_4 : decode cX2_taken 4 = .ok (.ifCond .eq 5, 3) := by decide +kernel
theorem dX2_taken_7 : decode cX2_taken 7 = .ok (.iload_n 1, 1) := by decide +kernel
theorem dX2_taken_8 : decode cX2_taken 8 = .ok (.ireturn, 1) := by decide +kernel
theorem dX2_taken_9 : decode cX2_taken 9 = .ok (.iload_n 1, 1) := by decide +kernel
theorem dX2_taken_10 : decode cX2_taken 10 = .ok (.invokestatic 102, 3) := by decide +kernel
theorem dX2_taken_13 : decode cX2_taken 13 = .ok (.ifCond .eq 15, 3) := by decide +kernel
theorem dX2_taken_16 : decode cX2_taken 16 = .ok (.aload_n 0, 1) := by decide +kernel
theorem dX2_taken_17 : decode cX2_taken 17 = .ok (.getfield 18, 3) := by decide +kernel
theorem dX2_taken_20 : decode cX2_taken 20 = .ok (.iload_n 1, 1) := by decide +kernel
theorem dX2_taken_21 : decode cX2_taken 21 = .ok (.invokestatic 105, 3) := by decide +kernel
theorem dX2_taken_24 : decode cX2_taken 24 = .ok (.iaload, 1) := by decide +kernel
theorem dX2_taken_25 : decode cX2_taken 25 = .ok (.goto 12, 3) := by decide +kernel
theorem dX2_taken_28 : decode cX2_taken 28 = .ok (.aload_n 0, 1) := by decide +kernel
theorem dX2_taken_29 : decode cX2_taken 29 = .ok (.getfield 9, 3) := by decide +kernel
theorem dX2_taken_32 : decode cX2_taken 32 = .ok (.iload_n 1, 1) := by decide +kernel
theorem dX2_taken_33 : decode cX2_taken 33 = .ok (.invokestatic 108, 3) := by decide +kernel
theorem dX2_taken_36 : decode cX2_taken 36 = .ok (.iaload, 1) := by decide +kernel
theorem dX2_taken_37 : decode cX2_taken 37 = .ok (.ireturn, 1) := by decide +kernel
theorem dX3_ofVariable_0 : decode cX3_ofVariable 0 = .ok (.iconst (-1), 1) := by decide +kernel
theorem dX3_ofVariable_1 : decode cX3_ofVariable 1 = .ok (.iload_n 0, 1) := by decide +kernel
theorem dX3_ofVariable_2 : decode cX3_ofVariable 2 = .ok (.isub, 1) := by decide +kernel
theorem dX3_ofVariable_3 : decode cX3_ofVariable 3 = .ok (.ireturn, 1) := by decide +kernel
theorem dX3_ofValue_0 : decode cX3_ofValue 0 = .ok (.bipush (-9), 2) := by decide +kernel
theorem dX3_ofValue_2 : decode cX3_ofValue 2 = .ok (.iload_n 0, 1) := by decide +kernel
theorem dX3_ofValue_3 : decode cX3_ofValue 3 = .ok (.isub, 1) := by decide +kernel
theorem dX3_ofValue_4 : decode cX3_ofValue 4 = .ok (.ireturn, 1) := by decide +kernel
theorem dX3_isNumber_0 : decode cX3_isNumber 0 = .ok (.iload_n 0, 1) := by decide +kernel
theorem dX3_isNumber_1 : decode cX3_isNumber 1 = .ok (.ifCond .lt 7, 3) := by decide +kernel
theorem dX3_isNumber_4 : decode cX3_isNumber 4 = .ok (.iconst 1, 1) := by decide +kernel
theorem dX3_isNumber_5 : decode cX3_isNumber 5 = .ok (.goto 4, 3) := by decide +kernel
theorem dX3_isNumber_8 : decode cX3_isNumber 8 = .ok (.iconst 0, 1) := by decide +kernel
theorem dX3_isNumber_9 : decode cX3_isNumber 9 = .ok (.ireturn, 1) := by decide +kernel
theorem dX3_isValue_0 : decode cX3_isValue 0 = .ok (.iload_n 0, 1) := by decide +kernel
theorem dX3_isValue_1 : decode cX3_isValue 1 = .ok (.bipush (-9), 2) := by decide +kernel
theorem dX3_isValue_3 : decode cX3_isValue 3 = .ok (.if_icmp .gt 14, 3) := by decide +kernel
theorem dX3_isValue_6 : decode cX3_isValue 6 = .ok (.iload_n 0, 1) := by decide +kernel
theorem dX3_isValue_7 : decode cX3_isValue 7 = .ok (.sipush (-209), 3) := by decide +kernel
theorem dX3_isValue_10 : decode cX3_isValue 10 = .ok (.if_icmp .le 7, 3) := by decide +kernel
theorem dX3_isValue_13 : decode cX3_isValue 13 = .ok (.iconst 1, 1) := by decide +kernel
theorem dX3_isValue_14 : decode cX3_isValue 14 = .ok (.goto 4, 3) := by decide +kernel
theorem dX3_isValue_17 : decode cX3_isValue 17 = .ok (.iconst 0, 1) := by decide +kernel
theorem dX3_isValue_18 : decode cX3_isValue 18 = .ok (.ireturn, 1) := by decide +kernel
theorem dX3_variableOf_0 : decode cX3_variableOf 0 = .ok (.iconst (-1), 1) := by decide +kernel
theorem dX3_variableOf_1 : decode cX3_variableOf 1 = .ok (.iload_n 0, 1) := by decide +kernel
theorem dX3_variableOf_2 : decode cX3_variableOf 2 = .ok (.isub, 1) := by decide +kernel
theorem dX3_variableOf_3 : decode cX3_variableOf 3 = .ok (.ireturn, 1) := by decide +kernel
theorem dX3_operationOf_0 : decode cX3_operationOf 0 = .ok (.bipush (-9), 2) := by decide +kernel
theorem dX3_operationOf_2 : decode cX3_operationOf 2 = .ok (.iload_n 0, 1) := by decide +kernel
theorem dX3_operationOf_3 : decode cX3_operationOf 3 = .ok (.isub, 1) := by decide +kernel
theorem dX3_operationOf_4 : decode cX3_operationOf 4 = .ok (.ireturn, 1) := by decide +kernel
theorem dX4_init_0 : decode cX4_init 0 = .ok (.aload_n 0, 1) := by decide +kernel
theorem dX4_init_1 : decode cX4_init 1 = .ok (.invokespecial 3, 3) := by decide +kernel
theorem dX4_init_4 : decode cX4_init 4 = .ok (.return_, 1) := by decide +kernel
theorem dX4_become_0 : decode cX4_become 0 = .ok (.aload_n 0, 1) := by decide +kernel
theorem dX4_become_1 : decode cX4_become 1 = .ok (.iload_n 1, 1) := by decide +kernel
theorem dX4_become_2 : decode cX4_become 2 = .ok (.putfield 9, 3) := by decide +kernel
theorem dX4_become_5 : decode cX4_become 5 = .ok (.aload_n 0, 1) := by decide +kernel
theorem dX4_become_6 : decode cX4_become 6 = .ok (.iload_n 2, 1) := by decide +kernel
theorem dX4_become_7 : decode cX4_become 7 = .ok (.putfield 15, 3) := by decide +kernel
theorem dX4_become_10 : decode cX4_become 10 = .ok (.aload_n 0, 1) := by decide +kernel
theorem dX4_become_11 : decode cX4_become 11 = .ok (.iload_n 3, 1) := by decide +kernel
theorem dX4_become_12 : decode cX4_become 12 = .ok (.putfield 18, 3) := by decide +kernel
theorem dX4_become_15 : decode cX4_become 15 = .ok (.aload_n 0, 1) := by decide +kernel
theorem dX4_become_16 : decode cX4_become 16 = .ok (.iload_n 1, 1) := by decide +kernel
theorem dX4_become_17 : decode cX4_become 17 = .ok (.invokestatic 21, 3) := by decide +kernel
theorem dX4_become_20 : decode cX4_become 20 = .ok (.putfield 25, 3) := by decide +kernel
theorem dX4_become_23 : decode cX4_become 23 = .ok (.aload_n 0, 1) := by decide +kernel
theorem dX4_become_24 : decode cX4_become 24 = .ok (.iconst (-1), 1) := by decide +kernel
theorem dX4_become_25 : decode cX4_become 25 = .ok (.putfield 28, 3) := by decide +kernel
theorem dX4_become_28 : decode cX4_become 28 = .ok (.return_, 1) := by decide +kernel
theorem dX4_hasBegun_0 : decode cX4_hasBegun 0 = .ok (.aload_n 0, 1) := by decide +kernel
theorem dX4_hasBegun_1 : decode cX4_hasBegun 1 = .ok (.getfield 31, 3) := by decide +kernel
theorem dX4_hasBegun_4 : decode cX4_hasBegun 4 = .ok (.iconst (-1), 1) := by decide +kernel
theorem dX4_hasBegun_5 : decode cX4_hasBegun 5 = .ok (.if_icmp .eq 7, 3) := by decide +kernel
theorem dX4_hasBegun_8 : decode cX4_hasBegun 8 = .ok (.iconst 1, 1) := by decide +kernel
theorem dX4_hasBegun_9 : decode cX4_hasBegun 9 = .ok (.goto 4, 3) := by decide +kernel
theorem dX4_hasBegun_12 : decode cX4_hasBegun 12 = .ok (.iconst 0, 1) := by decide +kernel
theorem dX4_hasBegun_13 : decode cX4_hasBegun 13 = .ok (.ireturn, 1) := by decide +kernel
theorem dX4_end_0 : decode cX4_end 0 = .ok (.aload_n 0, 1) := by decide +kernel
theorem dX4_end_1 : decode cX4_end 1 = .ok (.getfield 31, 3) := by decide +kernel
theorem dX4_end_4 : decode cX4_end 4 = .ok (.aload_n 0, 1) := by decide +kernel
theorem dX4_end_5 : decode cX4_end 5 = .ok (.getfield 34, 3) := by decide +kernel
theorem dX4_end_8 : decode cX4_end 8 = .ok (.iadd, 1) := by decide +kernel
theorem dX4_end_9 : decode cX4_end 9 = .ok (.ireturn, 1) := by decide +kernel
theorem dX4_fillsRegister_0 : decode cX4_fillsRegister 0 = .ok (.aload_n 0, 1) := by decide +kernel
theorem dX4_fillsRegister_1 : decode cX4_fillsRegister 1 = .ok (.getfield 28, 3) := by decide +kernel
theorem dX4_fillsRegister_4 : decode cX4_fillsRegister 4 = .ok (.iconst (-1), 1) := by decide +kernel
theorem dX4_fillsRegister_5 : decode cX4_fillsRegister 5 = .ok (.if_icmp .ne 15, 3) := by decide +kernel
theorem dX4_fillsRegister_8 : decode cX4_fillsRegister 8 = .ok (.aload_n 0, 1) := by decide +kernel
theorem dX4_fillsRegister_9 : decode cX4_fillsRegister 9 = .ok (.getfield 9, 3) := by decide +kernel
theorem dX4_fillsRegister_12 : decode cX4_fillsRegister 12 = .ok (.iconst 2, 1) := by decide +kernel
theorem dX4_fillsRegister_13 : decode cX4_fillsRegister 13 = .ok (.if_icmp .eq 7, 3) := by decide +kernel
theorem dX4_fillsRegister_16 : decode cX4_fillsRegister 16 = .ok (.iconst 1, 1) := by decide +kernel
theorem dX4_fillsRegister_17 : decode cX4_fillsRegister 17 = .ok (.goto 4, 3) := by decide +kernel
theorem dX4_fillsRegister_20 : decode cX4_fillsRegister 20 = .ok (.iconst 0, 1) := by decide +kernel
theorem dX4_fillsRegister_21 : decode cX4_fillsRegister 21 = .ok (.ireturn, 1) := by decide +kernel
theorem dX4_comesBehind_0 : decode cX4_comesBehind 0 = .ok (.aload_n 0, 1) := by decide +kernel
theorem dX4_comesBehind_1 : decode cX4_comesBehind 1 = .ok (.aload_n 1, 1) := by decide +kernel
theorem dX4_comesBehind_2 : decode cX4_comesBehind 2 = .ok (.getfield 37, 3) := by decide +kernel
theorem dX4_comesBehind_5 : decode cX4_comesBehind 5 = .ok (.invokestatic 40, 3) := by decide +kernel
theorem dX4_comesBehind_8 : decode cX4_comesBehind 8 = .ok (.invokevirtual 45, 3) := by decide +kernel
theorem dX4_comesBehind_11 : decode cX4_comesBehind 11 = .ok (.ifCond .ne 51, 3) := by decide +kernel
theorem dX4_comesBehind_14 : decode cX4_comesBehind 14 = .ok (.aload_n 0, 1) := by decide +kernel
theorem dX4_comesBehind_15 : decode cX4_comesBehind 15 = .ok (.aload_n 1, 1) := by decide +kernel
theorem dX4_comesBehind_16 : decode cX4_comesBehind 16 = .ok (.invokevirtual 49, 3) := by decide +kernel
theorem dX4_comesBehind_19 : decode cX4_comesBehind 19 = .ok (.ifCond .ne 43, 3) := by decide +kernel
theorem dX4_comesBehind_22 : decode cX4_comesBehind 22 = .ok (.aload_n 1, 1) := by decide +kernel
theorem dX4_comesBehind_23 : decode cX4_comesBehind 23 = .ok (.aload_n 0, 1) := by decide +kernel
theorem dX4_comesBehind_24 : decode cX4_comesBehind 24 = .ok (.invokevirtual 53, 3) := by decide +kernel
theorem dX4_comesBehind_27 : decode cX4_comesBehind 27 = .ok (.ifCond .ne 35, 3) := by decide +kernel
theorem dX4_comesBehind_30 : decode cX4_comesBehind 30 = .ok (.aload_n 0, 1) := by decide +kernel
theorem dX4_comesBehind_31 : decode cX4_comesBehind 31 = .ok (.getfield 9, 3) := by decide +kernel
theorem dX4_comesBehind_34 : decode cX4_comesBehind 34 = .ok (.iconst 2, 1) := by decide +kernel
theorem dX4_comesBehind_35 : decode cX4_comesBehind 35 = .ok (.if_icmp .ne 11, 3) := by decide +kernel
theorem dX4_comesBehind_38 : decode cX4_comesBehind 38 = .ok (.aload_n 1, 1) := by decide +kernel
theorem dX4_comesBehind_39 : decode cX4_comesBehind 39 = .ok (.getfield 25, 3) := by decide +kernel
theorem dX4_comesBehind_42 : decode cX4_comesBehind 42 = .ok (.iconst 2, 1) := by decide +kernel
theorem dX4_comesBehind_43 : decode cX4_comesBehind 43 = .ok (.if_icmp .eq 19, 3) := by decide +kernel
theorem dX4_comesBehind_46 : decode cX4_comesBehind 46 = .ok (.aload_n 1, 1) := by decide +kernel
theorem dX4_comesBehind_47 : decode cX4_comesBehind 47 = .ok (.getfield 9, 3) := by decide +kernel
theorem dX4_comesBehind_50 : decode cX4_comesBehind 50 = .ok (.iconst 2, 1) := by decide +kernel
theorem dX4_comesBehind_51 : decode cX4_comesBehind 51 = .ok (.if_icmp .ne 15, 3) := by decide +kernel
theorem dX4_comesBehind_54 : decode cX4_comesBehind 54 = .ok (.aload_n 0, 1) := by decide +kernel
theorem dX4_comesBehind_55 : decode cX4_comesBehind 55 = .ok (.getfield 25, 3) := by decide +kernel
theorem dX4_comesBehind_58 : decode cX4_comesBehind 58 = .ok (.iconst 2, 1) := by decide +kernel
theorem dX4_comesBehind_59 : decode cX4_comesBehind 59 = .ok (.if_icmp .ne 7, 3) := by decide +kernel
theorem dX4_comesBehind_62 : decode cX4_comesBehind 62 = .ok (.iconst 1, 1) := by decide +kernel
theorem dX4_comesBehind_63 : decode cX4_comesBehind 63 = .ok (.goto 4, 3) := by decide +kernel
theorem dX4_comesBehind_66 : decode cX4_comesBehind 66 = .ok (.iconst 0, 1) := by decide +kernel
theorem dX4_comesBehind_67 : decode cX4_comesBehind 67 = .ok (.ireturn, 1) := by decide +kernel
theorem dX4_touchesGiven_0 : decode cX4_touchesGiven 0 = .ok (.aload_n 0, 1) := by decide +kernel
theorem dX4_touchesGiven_1 : decode cX4_touchesGiven 1 = .ok (.aload_n 1, 1) := by decide +kernel
theorem dX4_touchesGiven_2 : decode cX4_touchesGiven 2 = .ok (.invokevirtual 53, 3) := by decide +kernel
theorem dX4_touchesGiven_5 : decode cX4_touchesGiven 5 = .ok (.ifCond .ne 22, 3) := by decide +kernel
theorem dX4_touchesGiven_8 : decode cX4_touchesGiven 8 = .ok (.aload_n 0, 1) := by decide +kernel
theorem dX4_touchesGiven_9 : decode cX4_touchesGiven 9 = .ok (.getfield 28, 3) := by decide +kernel
theorem dX4_touchesGiven_12 : decode cX4_touchesGiven 12 = .ok (.iconst (-1), 1) := by decide +kernel
theorem dX4_touchesGiven_13 : decode cX4_touchesGiven 13 = .ok (.if_icmp .eq 18, 3) := by decide +kernel
theorem dX4_touchesGiven_16 : decode cX4_touchesGiven 16 = .ok (.aload_n 0, 1) := by decide +kernel
theorem dX4_touchesGiven_17 : decode cX4_touchesGiven 17 = .ok (.getfield 28, 3) := by decide +kernel
theorem dX4_touchesGiven_20 : decode cX4_touchesGiven 20 = .ok (.aload_n 1, 1) := by decide +kernel
theorem dX4_touchesGiven_21 : decode cX4_touchesGiven 21 = .ok (.getfield 28, 3) := by decide +kernel
theorem dX4_touchesGiven_24 : decode cX4_touchesGiven 24 = .ok (.if_icmp .ne 7, 3) := by decide +kernel
theorem dX4_touchesGiven_27 : decode cX4_touchesGiven 27 = .ok (.iconst 1, 1) := by decide +kernel
theorem dX4_touchesGiven_28 : decode cX4_touchesGiven 28 = .ok (.goto 4, 3) := by decide +kernel
theorem dX4_touchesGiven_31 : decode cX4_touchesGiven 31 = .ok (.iconst 0, 1) := by decide +kernel
theorem dX4_touchesGiven_32 : decode cX4_touchesGiven 32 = .ok (.ireturn, 1) := by decide +kernel
theorem dX4_usesGiven_0 : decode cX4_usesGiven 0 = .ok (.aload_n 1, 1) := by decide +kernel
theorem dX4_usesGiven_1 : decode cX4_usesGiven 1 = .ok (.getfield 28, 3) := by decide +kernel
theorem dX4_usesGiven_4 : decode cX4_usesGiven 4 = .ok (.iconst (-1), 1) := by decide +kernel
theorem dX4_usesGiven_5 : decode cX4_usesGiven 5 = .ok (.if_icmp .eq 21, 3) := by decide +kernel
theorem dX4_usesGiven_8 : decode cX4_usesGiven 8 = .ok (.aload_n 0, 1) := by decide +kernel
theorem dX4_usesGiven_9 : decode cX4_usesGiven 9 = .ok (.aload_n 1, 1) := by decide +kernel
theorem dX4_usesGiven_10 : decode cX4_usesGiven 10 = .ok (.getfield 28, 3) := by decide +kernel
theorem dX4_usesGiven_13 : decode cX4_usesGiven 13 = .ok (.invokestatic 56, 3) := by decide +kernel
theorem dX4_usesGiven_16 : decode cX4_usesGiven 16 = .ok (.invokevirtual 45, 3) := by decide +kernel
theorem dX4_usesGiven_19 : decode cX4_usesGiven 19 = .ok (.ifCond .eq 7, 3) := by decide +kernel
theorem dX4_usesGiven_22 : decode cX4_usesGiven 22 = .ok (.iconst 1, 1) := by decide +kernel
theorem dX4_usesGiven_23 : decode cX4_usesGiven 23 = .ok (.goto 4, 3) := by decide +kernel
theorem dX4_usesGiven_26 : decode cX4_usesGiven 26 = .ok (.iconst 0, 1) := by decide +kernel
theorem dX4_usesGiven_27 : decode cX4_usesGiven 27 = .ok (.ireturn, 1) := by decide +kernel
theorem dX4_uses_0 : decode cX4_uses 0 = .ok (.aload_n 0, 1) := by decide +kernel
theorem dX4_uses_1 : decode cX4_uses 1 = .ok (.getfield 15, 3) := by decide +kernel
theorem dX4_uses_4 : decode cX4_uses 4 = .ok (.iload_n 1, 1) := by decide +kernel
theorem dX4_uses_5 : decode cX4_uses 5 = .ok (.if_icmp .eq 11, 3) := by decide +kernel
theorem dX4_uses_8 : decode cX4_uses 8 = .ok (.aload_n 0, 1) := by decide +kernel
theorem dX4_uses_9 : decode cX4_uses 9 = .ok (.getfield 18, 3) := by decide +kernel
theorem dX4_uses_12 : decode cX4_uses 12 = .ok (.iload_n 1, 1) := by decide +kernel
theorem dX4_uses_13 : decode cX4_uses 13 = .ok (.if_icmp .ne 7, 3) := by decide +kernel
theorem dX4_uses_16 : decode cX4_uses 16 = .ok (.iconst 1, 1) := by decide +kernel
theorem dX4_uses_17 : decode cX4_uses 17 = .ok (.goto 4, 3) := by decide +kernel
theorem dX4_uses_20 : decode cX4_uses 20 = .ok (.iconst 0, 1) := by decide +kernel
theorem dX4_uses_21 : decode cX4_uses 21 = .ok (.ireturn, 1) := by decide +kernel
theorem dX4_kindOf_0 : decode cX4_kindOf 0 = .ok (.iload_n 0, 1) := by decide +kernel
theorem dX4_kindOf_1 : decode cX4_kindOf 1 = .ok (.lookupswitch 49 #[(1, 45), (2, 45), (3, 47), (42, 43)], 43) := by decide +kernel
theorem dX4_kindOf_44 : decode cX4_kindOf 44 = .ok (.iconst 1, 1) := by decide +kernel
theorem dX4_kindOf_45 : decode cX4_kindOf 45 = .ok (.ireturn, 1) := by decide +kernel
theorem dX4_kindOf_46 : decode cX4_kindOf 46 = .ok (.iconst 2, 1) := by decide +kernel
theorem dX4_kindOf_47 : decode cX4_kindOf 47 = .ok (.ireturn, 1) := by decide +kernel
theorem dX4_kindOf_48 : decode cX4_kindOf 48 = .ok (.iconst 3, 1) := by decide +kernel
theorem dX4_kindOf_49 : decode cX4_kindOf 49 = .ok (.ireturn, 1) := by decide +kernel
theorem dX4_kindOf_50 : decode cX4_kindOf 50 = .ok (.iconst 0, 1) := by decide +kernel
theorem dX4_kindOf_51 : decode cX4_kindOf 51 = .ok (.ireturn, 1) := by decide +kernel
theorem dX5_init_0 : decode cX5_init 0 = .ok (.aload_n 0, 1) := by decide +kernel
theorem dX5_init_1 : decode cX5_init 1 = .ok (.invokespecial 3, 3) := by decide +kernel
theorem dX5_init_4 : decode cX5_init 4 = .ok (.aload_n 0, 1) := by decide +kernel
theorem dX5_init_5 : decode cX5_init 5 = .ok (.sipush 200, 3) := by decide +kernel
theorem dX5_init_8 : decode cX5_init 8 = .ok (.anewarray 9, 3) := by decide +kernel
theorem dX5_init_11 : decode cX5_init 11 = .ok (.putfield 11, 3) := by decide +kernel
theorem dX5_init_14 : decode cX5_init 14 = .ok (.iconst 0, 1) := by decide +kernel
theorem dX5_init_15 : decode cX5_init 15 = .ok (.istore_n 1, 1) := by decide +kernel
theorem dX5_init_16 : decode cX5_init 16 = .ok (.iload_n 1, 1) := by decide +kernel
theorem dX5_init_17 : decode cX5_init 17 = .ok (.sipush 200, 3) := by decide +kernel
theorem dX5_init_20 : decode cX5_init 20 = .ok (.if_icmp .ge 32, 3) := by decide +kernel
theorem dX5_init_23 : decode cX5_init 23 = .ok (.aload_n 0, 1) := by decide +kernel
theorem dX5_init_24 : decode cX5_init 24 = .ok (.getfield 11, 3) := by decide +kernel
theorem dX5_init_27 : decode cX5_init 27 = .ok (.iload_n 1, 1) := by decide +kernel
theorem dX5_init_28 : decode cX5_init 28 = .ok (.new 9, 3) := by decide +kernel
theorem dX5_init_31 : decode cX5_init 31 = .ok (.dup, 1) := by decide +kernel
theorem dX5_init_32 : decode cX5_init 32 = .ok (.invokespecial 17, 3) := by decide +kernel
theorem dX5_init_35 : decode cX5_init 35 = .ok (.aastore, 1) := by decide +kernel
theorem dX5_init_36 : decode cX5_init 36 = .ok (.aload_n 0, 1) := by decide +kernel
theorem dX5_init_37 : decode cX5_init 37 = .ok (.getfield 11, 3) := by decide +kernel
theorem dX5_init_40 : decode cX5_init 40 = .ok (.iload_n 1, 1) := by decide +kernel
theorem dX5_init_41 : decode cX5_init 41 = .ok (.aaload, 1) := by decide +kernel
theorem dX5_init_42 : decode cX5_init 42 = .ok (.iload_n 1, 1) := by decide +kernel
theorem dX5_init_43 : decode cX5_init 43 = .ok (.putfield 18, 3) := by decide +kernel
theorem dX5_init_46 : decode cX5_init 46 = .ok (.iinc 1 1, 3) := by decide +kernel
theorem dX5_init_49 : decode cX5_init 49 = .ok (.goto (-33), 3) := by decide +kernel
theorem dX5_init_52 : decode cX5_init 52 = .ok (.aload_n 0, 1) := by decide +kernel
theorem dX5_init_53 : decode cX5_init 53 = .ok (.sipush 175, 3) := by decide +kernel
theorem dX5_init_56 : decode cX5_init 56 = .ok (.anewarray 22, 3) := by decide +kernel
theorem dX5_init_59 : decode cX5_init 59 = .ok (.putfield 24, 3) := by decide +kernel
theorem dX5_init_62 : decode cX5_init 62 = .ok (.iconst 0, 1) := by decide +kernel
theorem dX5_init_63 : decode cX5_init 63 = .ok (.istore_n 1, 1) := by decide +kernel
theorem dX5_init_64 : decode cX5_init 64 = .ok (.iload_n 1, 1) := by decide +kernel
theorem dX5_init_65 : decode cX5_init 65 = .ok (.sipush 175, 3) := by decide +kernel
theorem dX5_init_68 : decode cX5_init 68 = .ok (.if_icmp .ge 22, 3) := by decide +kernel
theorem dX5_init_71 : decode cX5_init 71 = .ok (.aload_n 0, 1) := by decide +kernel
theorem dX5_init_72 : decode cX5_init 72 = .ok (.getfield 24, 3) := by decide +kernel
theorem dX5_init_75 : decode cX5_init 75 = .ok (.iload_n 1, 1) := by decide +kernel
theorem dX5_init_76 : decode cX5_init 76 = .ok (.new 22, 3) := by decide +kernel
theorem dX5_init_79 : decode cX5_init 79 = .ok (.dup, 1) := by decide +kernel
theorem dX5_init_80 : decode cX5_init 80 = .ok (.invokespecial 28, 3) := by decide +kernel
theorem dX5_init_83 : decode cX5_init 83 = .ok (.aastore, 1) := by decide +kernel
theorem dX5_init_84 : decode cX5_init 84 = .ok (.iinc 1 1, 3) := by decide +kernel
theorem dX5_init_87 : decode cX5_init 87 = .ok (.goto (-23), 3) := by decide +kernel
theorem dX5_init_90 : decode cX5_init 90 = .ok (.return_, 1) := by decide +kernel
theorem dX5_clear_0 : decode cX5_clear 0 = .ok (.aload_n 0, 1) := by decide +kernel
theorem dX5_clear_1 : decode cX5_clear 1 = .ok (.iconst 0, 1) := by decide +kernel
theorem dX5_clear_2 : decode cX5_clear 2 = .ok (.putfield 29, 3) := by decide +kernel
theorem dX5_clear_5 : decode cX5_clear 5 = .ok (.aload_n 0, 1) := by decide +kernel
theorem dX5_clear_6 : decode cX5_clear 6 = .ok (.iconst 0, 1) := by decide +kernel
theorem dX5_clear_7 : decode cX5_clear 7 = .ok (.putfield 32, 3) := by decide +kernel
theorem dX5_clear_10 : decode cX5_clear 10 = .ok (.return_, 1) := by decide +kernel
theorem dX5_isFull_0 : decode cX5_isFull 0 = .ok (.aload_n 0, 1) := by decide +kernel
theorem dX5_isFull_1 : decode cX5_isFull 1 = .ok (.getfield 29, 3) := by decide +kernel
theorem dX5_isFull_4 : decode cX5_isFull 4 = .ok (.sipush 200, 3) := by decide +kernel
theorem dX5_isFull_7 : decode cX5_isFull 7 = .ok (.if_icmp .ne 7, 3) := by decide +kernel
theorem dX5_isFull_10 : decode cX5_isFull 10 = .ok (.iconst 1, 1) := by decide +kernel
theorem dX5_isFull_11 : decode cX5_isFull 11 = .ok (.goto 4, 3) := by decide +kernel
theorem dX5_isFull_14 : decode cX5_isFull 14 = .ok (.iconst 0, 1) := by decide +kernel
theorem dX5_isFull_15 : decode cX5_isFull 15 = .ok (.ireturn, 1) := by decide +kernel
theorem dX5_addBlock_0 : decode cX5_addBlock 0 = .ok (.aload_n 0, 1) := by decide +kernel
theorem dX5_addBlock_1 : decode cX5_addBlock 1 = .ok (.getfield 24, 3) := by decide +kernel
theorem dX5_addBlock_4 : decode cX5_addBlock 4 = .ok (.aload_n 0, 1) := by decide +kernel
theorem dX5_addBlock_5 : decode cX5_addBlock 5 = .ok (.getfield 32, 3) := by decide +kernel
theorem dX5_addBlock_8 : decode cX5_addBlock 8 = .ok (.aaload, 1) := by decide +kernel
theorem dX5_addBlock_9 : decode cX5_addBlock 9 = .ok (.astore_n 1, 1) := by decide +kernel
theorem dX5_addBlock_10 : decode cX5_addBlock 10 = .ok (.aload_n 1, 1) := by decide +kernel
theorem dX5_addBlock_11 : decode cX5_addBlock 11 = .ok (.aload_n 0, 1) := by decide +kernel
theorem dX5_addBlock_12 : decode cX5_addBlock 12 = .ok (.getfield 29, 3) := by decide +kernel
theorem dX5_addBlock_15 : decode cX5_addBlock 15 = .ok (.invokevirtual 35, 3) := by decide +kernel
theorem dX5_addBlock_18 : decode cX5_addBlock 18 = .ok (.aload_n 0, 1) := by decide +kernel
theorem dX5_addBlock_19 : decode cX5_addBlock 19 = .ok (.dup, 1) := by decide +kernel
theorem dX5_addBlock_20 : decode cX5_addBlock 20 = .ok (.getfield 32, 3) := by decide +kernel
theorem dX5_addBlock_23 : decode cX5_addBlock 23 = .ok (.iconst 1, 1) := by decide +kernel
theorem dX5_addBlock_24 : decode cX5_addBlock 24 = .ok (.iadd, 1) := by decide +kernel
theorem dX5_addBlock_25 : decode cX5_addBlock 25 = .ok (.putfield 32, 3) := by decide +kernel
theorem dX5_addBlock_28 : decode cX5_addBlock 28 = .ok (.aload_n 1, 1) := by decide +kernel
theorem dX5_addBlock_29 : decode cX5_addBlock 29 = .ok (.areturn, 1) := by decide +kernel
theorem dX5_addOperation_0 : decode cX5_addOperation 0 = .ok (.aload_n 0, 1) := by decide +kernel
theorem dX5_addOperation_1 : decode cX5_addOperation 1 = .ok (.getfield 11, 3) := by decide +kernel
theorem dX5_addOperation_4 : decode cX5_addOperation 4 = .ok (.aload_n 0, 1) := by decide +kernel
theorem dX5_addOperation_5 : decode cX5_addOperation 5 = .ok (.getfield 29, 3) := by decide +kernel
theorem dX5_addOperation_8 : decode cX5_addOperation 8 = .ok (.aaload, 1) := by decide +kernel
theorem dX5_addOperation_9 : decode cX5_addOperation 9 = .ok (.astore 4, 2) := by decide +kernel
theorem dX5_addOperation_11 : decode cX5_addOperation 11 = .ok (.aload 4, 2) := by decide +kernel
theorem dX5_addOperation_13 : decode cX5_addOperation 13 = .ok (.iload_n 1, 1) := by decide +kernel
theorem dX5_addOperation_14 : decode cX5_addOperation 14 = .ok (.iload_n 2, 1) := by decide +kernel
theorem dX5_addOperation_15 : decode cX5_addOperation 15 = .ok (.iload_n 3, 1) := by decide +kernel
theorem dX5_addOperation_16 : decode cX5_addOperation 16 = .ok (.invokevirtual 39, 3) := by decide +kernel
theorem dX5_addOperation_19 : decode cX5_addOperation 19 = .ok (.aload 4, 2) := by decide +kernel
theorem dX5_addOperation_21 : decode cX5_addOperation 21 = .ok (.aload_n 0, 1) := by decide +kernel
theorem dX5_addOperation_22 : decode cX5_addOperation 22 = .ok (.getfield 32, 3) := by decide +kernel
theorem dX5_addOperation_25 : decode cX5_addOperation 25 = .ok (.iconst 1, 1) := by decide +kernel
theorem dX5_addOperation_26 : decode cX5_addOperation 26 = .ok (.isub, 1) := by decide +kernel
theorem dX5_addOperation_27 : decode cX5_addOperation 27 = .ok (.putfield 42, 3) := by decide +kernel
theorem dX5_addOperation_30 : decode cX5_addOperation 30 = .ok (.aload_n 0, 1) := by decide +kernel
theorem dX5_addOperation_31 : decode cX5_addOperation 31 = .ok (.getfield 24, 3) := by decide +kernel
theorem dX5_addOperation_34 : decode cX5_addOperation 34 = .ok (.aload_n 0, 1) := by decide +kernel
theorem dX5_addOperation_35 : decode cX5_addOperation 35 = .ok (.getfield 32, 3) := by decide +kernel
theorem dX5_addOperation_38 : decode cX5_addOperation 38 = .ok (.iconst 1, 1) := by decide +kernel
theorem dX5_addOperation_39 : decode cX5_addOperation 39 = .ok (.isub, 1) := by decide +kernel
theorem dX5_addOperation_40 : decode cX5_addOperation 40 = .ok (.aaload, 1) := by decide +kernel
theorem dX5_addOperation_41 : decode cX5_addOperation 41 = .ok (.dup, 1) := by decide +kernel
theorem dX5_addOperation_42 : decode cX5_addOperation 42 = .ok (.getfield 44, 3) := by decide +kernel
theorem dX5_addOperation_45 : decode cX5_addOperation 45 = .ok (.iconst 1, 1) := by decide +kernel
theorem dX5_addOperation_46 : decode cX5_addOperation 46 = .ok (.iadd, 1) := by decide +kernel
theorem dX5_addOperation_47 : decode cX5_addOperation 47 = .ok (.putfield 44, 3) := by decide +kernel
theorem dX5_addOperation_50 : decode cX5_addOperation 50 = .ok (.aload_n 0, 1) := by decide +kernel
theorem dX5_addOperation_51 : decode cX5_addOperation 51 = .ok (.dup, 1) := by decide +kernel
theorem dX5_addOperation_52 : decode cX5_addOperation 52 = .ok (.getfield 29, 3) := by decide +kernel
theorem dX5_addOperation_55 : decode cX5_addOperation 55 = .ok (.iconst 1, 1) := by decide +kernel
theorem dX5_addOperation_56 : decode cX5_addOperation 56 = .ok (.iadd, 1) := by decide +kernel
theorem dX5_addOperation_57 : decode cX5_addOperation 57 = .ok (.putfield 29, 3) := by decide +kernel
theorem dX5_addOperation_60 : decode cX5_addOperation 60 = .ok (.aload 4, 2) := by decide +kernel
theorem dX5_addOperation_62 : decode cX5_addOperation 62 = .ok (.areturn, 1) := by decide +kernel
theorem dX5_allCycles_0 : decode cX5_allCycles 0 = .ok (.iconst 0, 1) := by decide +kernel
theorem dX5_allCycles_1 : decode cX5_allCycles 1 = .ok (.istore_n 1, 1) := by decide +kernel
theorem dX5_allCycles_2 : decode cX5_allCycles 2 = .ok (.iconst 0, 1) := by decide +kernel
theorem dX5_allCycles_3 : decode cX5_allCycles 3 = .ok (.istore_n 2, 1) := by decide +kernel
theorem dX5_allCycles_4 : decode cX5_allCycles 4 = .ok (.iload_n 2, 1) := by decide +kernel
theorem dX5_allCycles_5 : decode cX5_allCycles 5 = .ok (.aload_n 0, 1) := by decide +kernel
theorem dX5_allCycles_6 : decode cX5_allCycles 6 = .ok (.getfield 32, 3) := by decide +kernel
theorem dX5_allCycles_9 : decode cX5_allCycles 9 = .ok (.if_icmp .ge 21, 3) := by decide +kernel
theorem dX5_allCycles_12 : decode cX5_allCycles 12 = .ok (.iload_n 1, 1) := by decide +kernel
theorem dX5_allCycles_13 : decode cX5_allCycles 13 = .ok (.aload_n 0, 1) := by decide +kernel
theorem dX5_allCycles_14 : decode cX5_allCycles 14 = .ok (.getfield 24, 3) := by decide +kernel
theorem dX5_allCycles_17 : decode cX5_allCycles 17 = .ok (.iload_n 2, 1) := by decide +kernel
theorem dX5_allCycles_18 : decode cX5_allCycles 18 = .ok (.aaload, 1) := by decide +kernel
theorem dX5_allCycles_19 : decode cX5_allCycles 19 = .ok (.getfield 47, 3) := by decide +kernel
theorem dX5_allCycles_22 : decode cX5_allCycles 22 = .ok (.iadd, 1) := by decide +kernel
theorem dX5_allCycles_23 : decode cX5_allCycles 23 = .ok (.istore_n 1, 1) := by decide +kernel
theorem dX5_allCycles_24 : decode cX5_allCycles 24 = .ok (.iinc 2 1, 3) := by decide +kernel
theorem dX5_allCycles_27 : decode cX5_allCycles 27 = .ok (.goto (-23), 3) := by decide +kernel
theorem dX5_allCycles_30 : decode cX5_allCycles 30 = .ok (.iload_n 1, 1) := by decide +kernel
theorem dX5_allCycles_31 : decode cX5_allCycles 31 = .ok (.ireturn, 1) := by decide +kernel
theorem dX5_usedRegisters_0 : decode cX5_usedRegisters 0 = .ok (.iconst (-1), 1) := by decide +kernel
theorem dX5_usedRegisters_1 : decode cX5_usedRegisters 1 = .ok (.istore_n 1, 1) := by decide +kernel
theorem dX5_usedRegisters_2 : decode cX5_usedRegisters 2 = .ok (.iconst 0, 1) := by decide +kernel
theorem dX5_usedRegisters_3 : decode cX5_usedRegisters 3 = .ok (.istore_n 2, 1) := by decide +kernel
theorem dX5_usedRegisters_4 : decode cX5_usedRegisters 4 = .ok (.iload_n 2, 1) := by decide +kernel
theorem dX5_usedRegisters_5 : decode cX5_usedRegisters 5 = .ok (.aload_n 0, 1) := by decide +kernel
theorem dX5_usedRegisters_6 : decode cX5_usedRegisters 6 = .ok (.getfield 29, 3) := by decide +kernel
theorem dX5_usedRegisters_9 : decode cX5_usedRegisters 9 = .ok (.if_icmp .ge 23, 3) := by decide +kernel
theorem dX5_usedRegisters_12 : decode cX5_usedRegisters 12 = .ok (.iload_n 1, 1) := by decide +kernel
theorem dX5_usedRegisters_13 : decode cX5_usedRegisters 13 = .ok (.aload_n 0, 1) := by decide +kernel
theorem dX5_usedRegisters_14 : decode cX5_usedRegisters 14 = .ok (.getfield 11, 3) := by decide +kernel
theorem dX5_usedRegisters_17 : decode cX5_usedRegisters 17 = .ok (.iload_n 2, 1) := by decide +kernel
theorem dX5_usedRegisters_18 : decode cX5_usedRegisters 18 = .ok (.aaload, 1) := by decide +kernel
theorem dX5_usedRegisters_19 : decode cX5_usedRegisters 19 = .ok (.getfield 50, 3) := by decide +kernel
theorem dX5_usedRegisters_22 : decode cX5_usedRegisters 22 = .ok (.invokestatic 53, 3) := by decide +kernel
theorem dX5_usedRegisters_25 : decode cX5_usedRegisters 25 = .ok (.istore_n 1, 1) := by decide +kernel
theorem dX5_usedRegisters_26 : decode cX5_usedRegisters 26 = .ok (.iinc 2 1, 3) := by decide +kernel
theorem dX5_usedRegisters_29 : decode cX5_usedRegisters 29 = .ok (.goto (-25), 3) := by decide +kernel
theorem dX5_usedRegisters_32 : decode cX5_usedRegisters 32 = .ok (.iload_n 1, 1) := by decide +kernel
theorem dX5_usedRegisters_33 : decode cX5_usedRegisters 33 = .ok (.iconst 1, 1) := by decide +kernel
theorem dX5_usedRegisters_34 : decode cX5_usedRegisters 34 = .ok (.iadd, 1) := by decide +kernel
theorem dX5_usedRegisters_35 : decode cX5_usedRegisters 35 = .ok (.ireturn, 1) := by decide +kernel
theorem dX5_usedUnits_0 : decode cX5_usedUnits 0 = .ok (.iconst (-1), 1) := by decide +kernel
theorem dX5_usedUnits_1 : decode cX5_usedUnits 1 = .ok (.istore_n 2, 1) := by decide +kernel
theorem dX5_usedUnits_2 : decode cX5_usedUnits 2 = .ok (.iconst 0, 1) := by decide +kernel
theorem dX5_usedUnits_3 : decode cX5_usedUnits 3 = .ok (.istore_n 3, 1) := by decide +kernel
theorem dX5_usedUnits_4 : decode cX5_usedUnits 4 = .ok (.iload_n 3, 1) := by decide +kernel
theorem dX5_usedUnits_5 : decode cX5_usedUnits 5 = .ok (.aload_n 0, 1) := by decide +kernel
theorem dX5_usedUnits_6 : decode cX5_usedUnits 6 = .ok (.getfield 29, 3) := by decide +kernel
theorem dX5_usedUnits_9 : decode cX5_usedUnits 9 = .ok (.if_icmp .ge 36, 3) := by decide +kernel
theorem dX5_usedUnits_12 : decode cX5_usedUnits 12 = .ok (.aload_n 0, 1) := by decide +kernel
theorem dX5_usedUnits_13 : decode cX5_usedUnits 13 = .ok (.getfield 11, 3) := by decide +kernel
theorem dX5_usedUnits_16 : decode cX5_usedUnits 16 = .ok (.iload_n 3, 1) := by decide +kernel
theorem dX5_usedUnits_17 : decode cX5_usedUnits 17 = .ok (.aaload, 1) := by decide +kernel
theorem dX5_usedUnits_18 : decode cX5_usedUnits 18 = .ok (.getfield 59, 3) := by decide +kernel
theorem dX5_usedUnits_21 : decode cX5_usedUnits 21 = .ok (.iload_n 1, 1) := by decide +kernel
theorem dX5_usedUnits_22 : decode cX5_usedUnits 22 = .ok (.if_icmp .ne 17, 3) := by decide +kernel
theorem dX5_usedUnits_25 : decode cX5_usedUnits 25 = .ok (.iload_n 2, 1) := by decide +kernel
theorem dX5_usedUnits_26 : decode cX5_usedUnits 26 = .ok (.aload_n 0, 1) := by decide +kernel
theorem dX5_usedUnits_27 : decode cX5_usedUnits 27 = .ok (.getfield 11, 3) := by decide +kernel
theorem dX5_usedUnits_30 : decode cX5_usedUnits 30 = .ok (.iload_n 3, 1) := by decide +kernel
theorem dX5_usedUnits_31 : decode cX5_usedUnits 31 = .ok (.aaload, 1) := by decide +kernel
theorem dX5_usedUnits_32 : decode cX5_usedUnits 32 = .ok (.getfield 62, 3) := by decide +kernel
theorem dX5_usedUnits_35 : decode cX5_usedUnits 35 = .ok (.invokestatic 53, 3) := by decide +kernel
theorem dX5_usedUnits_38 : decode cX5_usedUnits 38 = .ok (.istore_n 2, 1) := by decide +kernel
theorem dX5_usedUnits_39 : decode cX5_usedUnits 39 = .ok (.iinc 3 1, 3) := by decide +kernel
theorem dX5_usedUnits_42 : decode cX5_usedUnits 42 = .ok (.goto (-38), 3) := by decide +kernel
theorem dX5_usedUnits_45 : decode cX5_usedUnits 45 = .ok (.iload_n 2, 1) := by decide +kernel
theorem dX5_usedUnits_46 : decode cX5_usedUnits 46 = .ok (.iconst 1, 1) := by decide +kernel
theorem dX5_usedUnits_47 : decode cX5_usedUnits 47 = .ok (.iadd, 1) := by decide +kernel
theorem dX5_usedUnits_48 : decode cX5_usedUnits 48 = .ok (.ireturn, 1) := by decide +kernel
theorem dX6_init_0 : decode cX6_init 0 = .ok (.aload_n 0, 1) := by decide +kernel
theorem dX6_init_1 : decode cX6_init 1 = .ok (.invokespecial 3, 3) := by decide +kernel
theorem dX6_init_4 : decode cX6_init 4 = .ok (.aload_n 0, 1) := by decide +kernel
theorem dX6_init_5 : decode cX6_init 5 = .ok (.aload_n 1, 1) := by decide +kernel
theorem dX6_init_6 : decode cX6_init 6 = .ok (.putfield 9, 3) := by decide +kernel
theorem dX6_init_9 : decode cX6_init 9 = .ok (.return_, 1) := by decide +kernel
theorem dX6_rewind_0 : decode cX6_rewind 0 = .ok (.aload_n 0, 1) := by decide +kernel
theorem dX6_rewind_1 : decode cX6_rewind 1 = .ok (.iconst 0, 1) := by decide +kernel
theorem dX6_rewind_2 : decode cX6_rewind 2 = .ok (.putfield 15, 3) := by decide +kernel
theorem dX6_rewind_5 : decode cX6_rewind 5 = .ok (.return_, 1) := by decide +kernel
theorem dX6_look_0 : decode cX6_look 0 = .ok (.aload_n 0, 1) := by decide +kernel
theorem dX6_look_1 : decode cX6_look 1 = .ok (.getfield 15, 3) := by decide +kernel
theorem dX6_look_4 : decode cX6_look 4 = .ok (.aload_n 0, 1) := by decide +kernel
theorem dX6_look_5 : decode cX6_look 5 = .ok (.getfield 9, 3) := by decide +kernel
theorem dX6_look_8 : decode cX6_look 8 = .ok (.getfield 19, 3) := by decide +kernel
theorem dX6_look_11 : decode cX6_look 11 = .ok (.if_icmp .ge 46, 3) := by decide +kernel
theorem dX6_look_14 : decode cX6_look 14 = .ok (.aload_n 0, 1) := by decide +kernel
theorem dX6_look_15 : decode cX6_look 15 = .ok (.getfield 9, 3) := by decide +kernel
theorem dX6_look_18 : decode cX6_look 18 = .ok (.getfield 24, 3) := by decide +kernel
theorem dX6_look_21 : decode cX6_look 21 = .ok (.aload_n 0, 1) := by decide +kernel
theorem dX6_look_22 : decode cX6_look 22 = .ok (.getfield 15, 3) := by decide +kernel
theorem dX6_look_25 : decode cX6_look 25 = .ok (.iaload, 1) := by decide +kernel
theorem dX6_look_26 : decode cX6_look 26 = .ok (.bipush 32, 2) := by decide +kernel
theorem dX6_look_28 : decode cX6_look 28 = .ok (.if_icmp .le 16, 3) := by decide +kernel
theorem dX6_look_31 : decode cX6_look 31 = .ok (.aload_n 0, 1) := by decide +kernel
theorem dX6_look_32 : decode cX6_look 32 = .ok (.getfield 9, 3) := by decide +kernel
theorem dX6_look_35 : decode cX6_look 35 = .ok (.getfield 24, 3) := by decide +kernel
theorem dX6_look_38 : decode cX6_look 38 = .ok (.aload_n 0, 1) := by decide +kernel
theorem dX6_look_39 : decode cX6_look 39 = .ok (.getfield 15, 3) := by decide +kernel
theorem dX6_look_42 : decode cX6_look 42 = .ok (.iaload, 1) := by decide +kernel
theorem dX6_look_43 : decode cX6_look 43 = .ok (.ireturn, 1) := by decide +kernel
theorem dX6_look_44 : decode cX6_look 44 = .ok (.aload_n 0, 1) := by decide +kernel
theorem dX6_look_45 : decode cX6_look 45 = .ok (.dup, 1) := by decide +kernel
theorem dX6_look_46 : decode cX6_look 46 = .ok (.getfield 15, 3) := by decide +kernel
theorem dX6_look_49 : decode cX6_look 49 = .ok (.iconst 1, 1) := by decide +kernel
theorem dX6_look_50 : decode cX6_look 50 = .ok (.iadd, 1) := by decide +kernel
theorem dX6_look_51 : decode cX6_look 51 = .ok (.putfield 15, 3) := by decide +kernel
theorem dX6_look_54 : decode cX6_look 54 = .ok (.goto (-54), 3) := by decide +kernel
theorem dX6_look_57 : decode cX6_look 57 = .ok (.iconst (-1), 1) := by decide +kernel
theorem dX6_look_58 : decode cX6_look 58 = .ok (.ireturn, 1) := by decide +kernel
theorem dX6_pass_0 : decode cX6_pass 0 = .ok (.aload_n 0, 1) := by decide +kernel
theorem dX6_pass_1 : decode cX6_pass 1 = .ok (.dup, 1) := by decide +kernel
theorem dX6_pass_2 : decode cX6_pass 2 = .ok (.getfield 15, 3) := by decide +kernel
theorem dX6_pass_5 : decode cX6_pass 5 = .ok (.iload_n 1, 1) := by decide +kernel
theorem dX6_pass_6 : decode cX6_pass 6 = .ok (.iadd, 1) := by decide +kernel
theorem dX6_pass_7 : decode cX6_pass 7 = .ok (.putfield 15, 3) := by decide +kernel
theorem dX6_pass_10 : decode cX6_pass 10 = .ok (.return_, 1) := by decide +kernel
theorem dX6_seesWord_0 : decode cX6_seesWord 0 = .ok (.aload_n 0, 1) := by decide +kernel
theorem dX6_seesWord_1 : decode cX6_seesWord 1 = .ok (.invokevirtual 28, 3) := by decide +kernel
theorem dX6_seesWord_4 : decode cX6_seesWord 4 = .ok (.pop, 1) := by decide +kernel
theorem dX6_seesWord_5 : decode cX6_seesWord 5 = .ok (.aload_n 0, 1) := by decide +kernel
theorem dX6_seesWord_6 : decode cX6_seesWord 6 = .ok (.invokevirtual 32, 3) := by decide +kernel
theorem dX6_seesWord_9 : decode cX6_seesWord 9 = .ok (.aload_n 1, 1) := by decide +kernel
theorem dX6_seesWord_10 : decode cX6_seesWord 10 = .ok (.invokevirtual 35, 3) := by decide +kernel
theorem dX6_seesWord_13 : decode cX6_seesWord 13 = .ok (.if_icmp .eq 5, 3) := by decide +kernel
theorem dX6_seesWord_16 : decode cX6_seesWord 16 = .ok (.iconst 0, 1) := by decide +kernel
theorem dX6_seesWord_17 : decode cX6_seesWord 17 = .ok (.ireturn, 1) := by decide +kernel
theorem dX6_seesWord_18 : decode cX6_seesWord 18 = .ok (.iconst 0, 1) := by decide +kernel
theorem dX6_seesWord_19 : decode cX6_seesWord 19 = .ok (.istore_n 2, 1) := by decide +kernel
theorem dX6_seesWord_20 : decode cX6_seesWord 20 = .ok (.iload_n 2, 1) := by decide +kernel
theorem dX6_seesWord_21 : decode cX6_seesWord 21 = .ok (.aload_n 1, 1) := by decide +kernel
theorem dX6_seesWord_22 : decode cX6_seesWord 22 = .ok (.invokevirtual 35, 3) := by decide +kernel
theorem dX6_seesWord_25 : decode cX6_seesWord 25 = .ok (.if_icmp .ge 33, 3) := by decide +kernel
theorem dX6_seesWord_28 : decode cX6_seesWord 28 = .ok (.aload_n 0, 1) := by decide +kernel
theorem dX6_seesWord_29 : decode cX6_seesWord 29 = .ok (.getfield 9, 3) := by decide +kernel
theorem dX6_seesWord_32 : decode cX6_seesWord 32 = .ok (.getfield 24, 3) := by decide +kernel
theorem dX6_seesWord_35 : decode cX6_seesWord 35 = .ok (.aload_n 0, 1) := by decide +kernel
theorem dX6_seesWord_36 : decode cX6_seesWord 36 = .ok (.getfield 15, 3) := by decide +kernel
theorem dX6_seesWord_39 : decode cX6_seesWord 39 = .ok (.iload_n 2, 1) := by decide +kernel
theorem dX6_seesWord_40 : decode cX6_seesWord 40 = .ok (.iadd, 1) := by decide +kernel
theorem dX6_seesWord_41 : decode cX6_seesWord 41 = .ok (.iaload, 1) := by decide +kernel
theorem dX6_seesWord_42 : decode cX6_seesWord 42 = .ok (.aload_n 1, 1) := by decide +kernel
theorem dX6_seesWord_43 : decode cX6_seesWord 43 = .ok (.iload_n 2, 1) := by decide +kernel
theorem dX6_seesWord_44 : decode cX6_seesWord 44 = .ok (.invokevirtual 39, 3) := by decide +kernel
theorem dX6_seesWord_47 : decode cX6_seesWord 47 = .ok (.if_icmp .eq 5, 3) := by decide +kernel
theorem dX6_seesWord_50 : decode cX6_seesWord 50 = .ok (.iconst 0, 1) := by decide +kernel
theorem dX6_seesWord_51 : decode cX6_seesWord 51 = .ok (.ireturn, 1) := by decide +kernel
theorem dX6_seesWord_52 : decode cX6_seesWord 52 = .ok (.iinc 2 1, 3) := by decide +kernel
theorem dX6_seesWord_55 : decode cX6_seesWord 55 = .ok (.goto (-35), 3) := by decide +kernel
theorem dX6_seesWord_58 : decode cX6_seesWord 58 = .ok (.iconst 1, 1) := by decide +kernel
theorem dX6_seesWord_59 : decode cX6_seesWord 59 = .ok (.ireturn, 1) := by decide +kernel
theorem dX6_seenVariable_0 : decode cX6_seenVariable 0 = .ok (.aload_n 0, 1) := by decide +kernel
theorem dX6_seenVariable_1 : decode cX6_seenVariable 1 = .ok (.invokevirtual 28, 3) := by decide +kernel
theorem dX6_seenVariable_4 : decode cX6_seenVariable 4 = .ok (.bipush 97, 2) := by decide +kernel
theorem dX6_seenVariable_6 : decode cX6_seenVariable 6 = .ok (.isub, 1) := by decide +kernel
theorem dX6_seenVariable_7 : decode cX6_seenVariable 7 = .ok (.istore_n 1, 1) := by decide +kernel
theorem dX6_seenVariable_8 : decode cX6_seenVariable 8 = .ok (.iload_n 1, 1) := by decide +kernel
theorem dX6_seenVariable_9 : decode cX6_seenVariable 9 = .ok (.ifCond .lt 21, 3) := by decide +kernel
theorem dX6_seenVariable_12 : decode cX6_seenVariable 12 = .ok (.iload_n 1, 1) := by decide +kernel
theorem dX6_seenVariable_13 : decode cX6_seenVariable 13 = .ok (.bipush 8, 2) := by decide +kernel
theorem dX6_seenVariable_15 : decode cX6_seenVariable 15 = .ok (.if_icmp .ge 15, 3) := by decide +kernel
theorem dX6_seenVariable_18 : decode cX6_seenVariable 18 = .ok (.aload_n 0, 1) := by decide +kernel
theorem dX6_seenVariable_19 : decode cX6_seenVariable 19 = .ok (.invokevirtual 32, 3) := by decide +kernel
theorem dX6_seenVariable_22 : decode cX6_seenVariable 22 = .ok (.iconst 1, 1) := by decide +kernel
theorem dX6_seenVariable_23 : decode cX6_seenVariable 23 = .ok (.if_icmp .ne 7, 3) := by decide +kernel
theorem dX6_seenVariable_26 : decode cX6_seenVariable 26 = .ok (.iconst 1, 1) := by decide +kernel
theorem dX6_seenVariable_27 : decode cX6_seenVariable 27 = .ok (.goto 4, 3) := by decide +kernel
theorem dX6_seenVariable_30 : decode cX6_seenVariable 30 = .ok (.iconst 0, 1) := by decide +kernel
theorem dX6_seenVariable_31 : decode cX6_seenVariable 31 = .ok (.istore_n 2, 1) := by decide +kernel
theorem dX6_seenVariable_32 : decode cX6_seenVariable 32 = .ok (.iload_n 2, 1) := by decide +kernel
theorem dX6_seenVariable_33 : decode cX6_seenVariable 33 = .ok (.ifCond .eq 7, 3) := by decide +kernel
theorem dX6_seenVariable_36 : decode cX6_seenVariable 36 = .ok (.iload_n 1, 1) := by decide +kernel
theorem dX6_seenVariable_37 : decode cX6_seenVariable 37 = .ok (.goto 4, 3) := by decide +kernel
theorem dX6_seenVariable_40 : decode cX6_seenVariable 40 = .ok (.iconst (-1), 1) := by decide +kernel
theorem dX6_seenVariable_41 : decode cX6_seenVariable 41 = .ok (.ireturn, 1) := by decide +kernel
theorem dX6_seesFigure_0 : decode cX6_seesFigure 0 = .ok (.aload_n 0, 1) := by decide +kernel
theorem dX6_seesFigure_1 : decode cX6_seesFigure 1 = .ok (.invokevirtual 28, 3) := by decide +kernel
theorem dX6_seesFigure_4 : decode cX6_seesFigure 4 = .ok (.invokestatic 43, 3) := by decide +kernel
theorem dX6_seesFigure_7 : decode cX6_seesFigure 7 = .ok (.ireturn, 1) := by decide +kernel
theorem dX6_seesLetter_0 : decode cX6_seesLetter 0 = .ok (.aload_n 0, 1) := by decide +kernel
theorem dX6_seesLetter_1 : decode cX6_seesLetter 1 = .ok (.invokevirtual 28, 3) := by decide +kernel
theorem dX6_seesLetter_4 : decode cX6_seesLetter 4 = .ok (.invokestatic 47, 3) := by decide +kernel
theorem dX6_seesLetter_7 : decode cX6_seesLetter 7 = .ok (.ireturn, 1) := by decide +kernel
theorem dX6_readNumber_0 : decode cX6_readNumber 0 = .ok (.lconst 0, 1) := by decide +kernel
theorem dX6_readNumber_1 : decode cX6_readNumber 1 = .ok (.lstore_n 1, 1) := by decide +kernel
theorem dX6_readNumber_2 : decode cX6_readNumber 2 = .ok (.aload_n 0, 1) := by decide +kernel
theorem dX6_readNumber_3 : decode cX6_readNumber 3 = .ok (.getfield 15, 3) := by decide +kernel
theorem dX6_readNumber_6 : decode cX6_readNumber 6 = .ok (.aload_n 0, 1) := by decide +kernel
theorem dX6_readNumber_7 : decode cX6_readNumber 7 = .ok (.getfield 9, 3) := by decide +kernel
theorem dX6_readNumber_10 : decode cX6_readNumber 10 = .ok (.getfield 19, 3) := by decide +kernel
theorem dX6_readNumber_13 : decode cX6_readNumber 13 = .ok (.if_icmp .ge 64, 3) := by decide +kernel
theorem dX6_readNumber_16 : decode cX6_readNumber 16 = .ok (.aload_n 0, 1) := by decide +kernel
theorem dX6_readNumber_17 : decode cX6_readNumber 17 = .ok (.getfield 9, 3) := by decide +kernel
theorem dX6_readNumber_20 : decode cX6_readNumber 20 = .ok (.getfield 24, 3) := by decide +kernel
theorem dX6_readNumber_23 : decode cX6_readNumber 23 = .ok (.aload_n 0, 1) := by decide +kernel
theorem dX6_readNumber_24 : decode cX6_readNumber 24 = .ok (.getfield 15, 3) := by decide +kernel
theorem dX6_readNumber_27 : decode cX6_readNumber 27 = .ok (.iaload, 1) := by decide +kernel
theorem dX6_readNumber_28 : decode cX6_readNumber 28 = .ok (.invokestatic 43, 3) := by decide +kernel
theorem dX6_readNumber_31 : decode cX6_readNumber 31 = .ok (.ifCond .eq 46, 3) := by decide +kernel
theorem dX6_readNumber_34 : decode cX6_readNumber 34 = .ok (.ldc2_w 50, 3) := by decide +kernel
theorem dX6_readNumber_37 : decode cX6_readNumber 37 = .ok (.lload_n 1, 1) := by decide +kernel
theorem dX6_readNumber_38 : decode cX6_readNumber 38 = .ok (.lmul, 1) := by decide +kernel
theorem dX6_readNumber_39 : decode cX6_readNumber 39 = .ok (.aload_n 0, 1) := by decide +kernel
theorem dX6_readNumber_40 : decode cX6_readNumber 40 = .ok (.getfield 9, 3) := by decide +kernel
theorem dX6_readNumber_43 : decode cX6_readNumber 43 = .ok (.getfield 24, 3) := by decide +kernel
theorem dX6_readNumber_46 : decode cX6_readNumber 46 = .ok (.aload_n 0, 1) := by decide +kernel
theorem dX6_readNumber_47 : decode cX6_readNumber 47 = .ok (.getfield 15, 3) := by decide +kernel
theorem dX6_readNumber_50 : decode cX6_readNumber 50 = .ok (.iaload, 1) := by decide +kernel
theorem dX6_readNumber_51 : decode cX6_readNumber 51 = .ok (.i2l, 1) := by decide +kernel
theorem dX6_readNumber_52 : decode cX6_readNumber 52 = .ok (.ladd, 1) := by decide +kernel
theorem dX6_readNumber_53 : decode cX6_readNumber 53 = .ok (.ldc2_w 52, 3) := by decide +kernel
theorem dX6_readNumber_56 : decode cX6_readNumber 56 = .ok (.lsub, 1) := by decide +kernel
theorem dX6_readNumber_57 : decode cX6_readNumber 57 = .ok (.ldc2_w 54, 3) := by decide +kernel
theorem dX6_readNumber_60 : decode cX6_readNumber 60 = .ok (.invokestatic 56, 3) := by decide +kernel
theorem dX6_readNumber_63 : decode cX6_readNumber 63 = .ok (.lstore_n 1, 1) := by decide +kernel
theorem dX6_readNumber_64 : decode cX6_readNumber 64 = .ok (.aload_n 0, 1) := by decide +kernel
theorem dX6_readNumber_65 : decode cX6_readNumber 65 = .ok (.dup, 1) := by decide +kernel
theorem dX6_readNumber_66 : decode cX6_readNumber 66 = .ok (.getfield 15, 3) := by decide +kernel
theorem dX6_readNumber_69 : decode cX6_readNumber 69 = .ok (.iconst 1, 1) := by decide +kernel
theorem dX6_readNumber_70 : decode cX6_readNumber 70 = .ok (.iadd, 1) := by decide +kernel
theorem dX6_readNumber_71 : decode cX6_readNumber 71 = .ok (.putfield 15, 3) := by decide +kernel
theorem dX6_readNumber_74 : decode cX6_readNumber 74 = .ok (.goto (-72), 3) := by decide +kernel
theorem dX6_readNumber_77 : decode cX6_readNumber 77 = .ok (.lload_n 1, 1) := by decide +kernel
theorem dX6_readNumber_78 : decode cX6_readNumber 78 = .ok (.lreturn, 1) := by decide +kernel
theorem dX6_lettersHere_0 : decode cX6_lettersHere 0 = .ok (.aload_n 0, 1) := by decide +kernel
theorem dX6_lettersHere_1 : decode cX6_lettersHere 1 = .ok (.getfield 15, 3) := by decide +kernel
theorem dX6_lettersHere_4 : decode cX6_lettersHere 4 = .ok (.istore_n 1, 1) := by decide +kernel
theorem dX6_lettersHere_5 : decode cX6_lettersHere 5 = .ok (.iload_n 1, 1) := by decide +kernel
theorem dX6_lettersHere_6 : decode cX6_lettersHere 6 = .ok (.aload_n 0, 1) := by decide +kernel
theorem dX6_lettersHere_7 : decode cX6_lettersHere 7 = .ok (.getfield 9, 3) := by decide +kernel
theorem dX6_lettersHere_10 : decode cX6_lettersHere 10 = .ok (.getfield 19, 3) := by decide +kernel
theorem dX6_lettersHere_13 : decode cX6_lettersHere 13 = .ok (.if_icmp .ge 24, 3) := by decide +kernel
theorem dX6_lettersHere_16 : decode cX6_lettersHere 16 = .ok (.aload_n 0, 1) := by decide +kernel
theorem dX6_lettersHere_17 : decode cX6_lettersHere 17 = .ok (.getfield 9, 3) := by decide +kernel
theorem dX6_lettersHere_20 : decode cX6_lettersHere 20 = .ok (.getfield 24, 3) := by decide +kernel
theorem dX6_lettersHere_23 : decode cX6_lettersHere 23 = .ok (.iload_n 1, 1) := by decide +kernel
theorem dX6_lettersHere_24 : decode cX6_lettersHere 24 = .ok (.iaload, 1) := by decide +kernel
theorem dX6_lettersHere_25 : decode cX6_lettersHere 25 = .ok (.invokestatic 47, 3) := by decide +kernel
theorem dX6_lettersHere_28 : decode cX6_lettersHere 28 = .ok (.ifCond .eq 9, 3) := by decide +kernel
theorem dX6_lettersHere_31 : decode cX6_lettersHere 31 = .ok (.iinc 1 1, 3) := by decide +kernel
theorem dX6_lettersHere_34 : decode cX6_lettersHere 34 = .ok (.goto (-29), 3) := by decide +kernel
theorem dX6_lettersHere_37 : decode cX6_lettersHere 37 = .ok (.iload_n 1, 1) := by decide +kernel
theorem dX6_lettersHere_38 : decode cX6_lettersHere 38 = .ok (.aload_n 0, 1) := by decide +kernel
theorem dX6_lettersHere_39 : decode cX6_lettersHere 39 = .ok (.getfield 15, 3) := by decide +kernel
theorem dX6_lettersHere_42 : decode cX6_lettersHere 42 = .ok (.isub, 1) := by decide +kernel
theorem dX6_lettersHere_43 : decode cX6_lettersHere 43 = .ok (.ireturn, 1) := by decide +kernel
theorem dX6_isFigure_0 : decode cX6_isFigure 0 = .ok (.iload_n 0, 1) := by decide +kernel
theorem dX6_isFigure_1 : decode cX6_isFigure 1 = .ok (.bipush 48, 2) := by decide +kernel
theorem dX6_isFigure_3 : decode cX6_isFigure 3 = .ok (.if_icmp .lt 13, 3) := by decide +kernel
theorem dX6_isFigure_6 : decode cX6_isFigure 6 = .ok (.iload_n 0, 1) := by decide +kernel
theorem dX6_isFigure_7 : decode cX6_isFigure 7 = .ok (.bipush 57, 2) := by decide +kernel
theorem dX6_isFigure_9 : decode cX6_isFigure 9 = .ok (.if_icmp .gt 7, 3) := by decide +kernel
theorem dX6_isFigure_12 : decode cX6_isFigure 12 = .ok (.iconst 1, 1) := by decide +kernel
theorem dX6_isFigure_13 : decode cX6_isFigure 13 = .ok (.goto 4, 3) := by decide +kernel
theorem dX6_isFigure_16 : decode cX6_isFigure 16 = .ok (.iconst 0, 1) := by decide +kernel
theorem dX6_isFigure_17 : decode cX6_isFigure 17 = .ok (.ireturn, 1) := by decide +kernel
theorem dX6_isLetter_0 : decode cX6_isLetter 0 = .ok (.iload_n 0, 1) := by decide +kernel
theorem dX6_isLetter_1 : decode cX6_isLetter 1 = .ok (.bipush 97, 2) := by decide +kernel
theorem dX6_isLetter_3 : decode cX6_isLetter 3 = .ok (.if_icmp .lt 13, 3) := by decide +kernel
theorem dX6_isLetter_6 : decode cX6_isLetter 6 = .ok (.iload_n 0, 1) := by decide +kernel
theorem dX6_isLetter_7 : decode cX6_isLetter 7 = .ok (.bipush 122, 2) := by decide +kernel
theorem dX6_isLetter_9 : decode cX6_isLetter 9 = .ok (.if_icmp .gt 7, 3) := by decide +kernel
theorem dX6_isLetter_12 : decode cX6_isLetter 12 = .ok (.iconst 1, 1) := by decide +kernel
theorem dX6_isLetter_13 : decode cX6_isLetter 13 = .ok (.goto 4, 3) := by decide +kernel
theorem dX6_isLetter_16 : decode cX6_isLetter 16 = .ok (.iconst 0, 1) := by decide +kernel
theorem dX6_isLetter_17 : decode cX6_isLetter 17 = .ok (.ireturn, 1) := by decide +kernel
theorem dX7_init_0 : decode cX7_init 0 = .ok (.aload_n 0, 1) := by decide +kernel
theorem dX7_init_1 : decode cX7_init 1 = .ok (.invokespecial 3, 3) := by decide +kernel
theorem dX7_init_4 : decode cX7_init 4 = .ok (.aload_n 0, 1) := by decide +kernel
theorem dX7_init_5 : decode cX7_init 5 = .ok (.sipush 700, 3) := by decide +kernel
theorem dX7_init_8 : decode cX7_init 8 = .ok (.newarray .int, 2) := by decide +kernel
theorem dX7_init_10 : decode cX7_init 10 = .ok (.putfield 9, 3) := by decide +kernel
theorem dX7_init_13 : decode cX7_init 13 = .ok (.return_, 1) := by decide +kernel
theorem dX7_append_0 : decode cX7_append 0 = .ok (.aload_n 0, 1) := by decide +kernel
theorem dX7_append_1 : decode cX7_append 1 = .ok (.getfield 15, 3) := by decide +kernel
theorem dX7_append_4 : decode cX7_append 4 = .ok (.iload_n 1, 1) := by decide +kernel
theorem dX7_append_5 : decode cX7_append 5 = .ok (.iadd, 1) := by decide +kernel
theorem dX7_append_6 : decode cX7_append 6 = .ok (.sipush 700, 3) := by decide +kernel
theorem dX7_append_9 : decode cX7_append 9 = .ok (.if_icmp .le 5, 3) := by decide +kernel
theorem dX7_append_12 : decode cX7_append 12 = .ok (.iconst 0, 1) := by decide +kernel
theorem dX7_append_13 : decode cX7_append 13 = .ok (.ireturn, 1) := by decide +kernel
theorem dX7_append_14 : decode cX7_append 14 = .ok (.iconst 0, 1) := by decide +kernel
theorem dX7_append_15 : decode cX7_append 15 = .ok (.istore 4, 2) := by decide +kernel
theorem dX7_append_17 : decode cX7_append 17 = .ok (.iload 4, 2) := by decide +kernel
theorem dX7_append_19 : decode cX7_append 19 = .ok (.iload_n 1, 1) := by decide +kernel
theorem dX7_append_20 : decode cX7_append 20 = .ok (.if_icmp .ge 33, 3) := by decide +kernel
theorem dX7_append_23 : decode cX7_append 23 = .ok (.aload_n 0, 1) := by decide +kernel
theorem dX7_append_24 : decode cX7_append 24 = .ok (.getfield 9, 3) := by decide +kernel
theorem dX7_append_27 : decode cX7_append 27 = .ok (.aload_n 0, 1) := by decide +kernel
theorem dX7_append_28 : decode cX7_append 28 = .ok (.getfield 15, 3) := by decide +kernel
theorem dX7_append_31 : decode cX7_append 31 = .ok (.iload 4, 2) := by decide +kernel
theorem dX7_append_33 : decode cX7_append 33 = .ok (.iadd, 1) := by decide +kernel
theorem dX7_append_34 : decode cX7_append 34 = .ok (.lload_n 2, 1) := by decide +kernel
theorem dX7_append_35 : decode cX7_append 35 = .ok (.bipush 8, 2) := by decide +kernel
theorem dX7_append_37 : decode cX7_append 37 = .ok (.iload 4, 2) := by decide +kernel
theorem dX7_append_39 : decode cX7_append 39 = .ok (.imul, 1) := by decide +kernel
theorem dX7_append_40 : decode cX7_append 40 = .ok (.lshr, 1) := by decide +kernel
theorem dX7_append_41 : decode cX7_append 41 = .ok (.l2i, 1) := by decide +kernel
theorem dX7_append_42 : decode cX7_append 42 = .ok (.sipush 255, 3) := by decide +kernel
theorem dX7_append_45 : decode cX7_append 45 = .ok (.iand, 1) := by decide +kernel
theorem dX7_append_46 : decode cX7_append 46 = .ok (.iastore, 1) := by decide +kernel
theorem dX7_append_47 : decode cX7_append 47 = .ok (.iinc 4 1, 3) := by decide +kernel
theorem dX7_append_50 : decode cX7_append 50 = .ok (.goto (-33), 3) := by decide +kernel
theorem dX7_append_53 : decode cX7_append 53 = .ok (.aload_n 0, 1) := by decide +kernel
theorem dX7_append_54 : decode cX7_append 54 = .ok (.dup, 1) := by decide +kernel
theorem dX7_append_55 : decode cX7_append 55 = .ok (.getfield 15, 3) := by decide +kernel
theorem dX7_append_58 : decode cX7_append 58 = .ok (.iload_n 1, 1) := by decide +kernel
theorem dX7_append_59 : decode cX7_append 59 = .ok (.iadd, 1) := by decide +kernel
theorem dX7_append_60 : decode cX7_append 60 = .ok (.putfield 15, 3) := by decide +kernel
theorem dX7_append_63 : decode cX7_append 63 = .ok (.iconst 1, 1) := by decide +kernel
theorem dX7_append_64 : decode cX7_append 64 = .ok (.ireturn, 1) := by decide +kernel
theorem dX7_clear_0 : decode cX7_clear 0 = .ok (.aload_n 0, 1) := by decide +kernel
theorem dX7_clear_1 : decode cX7_clear 1 = .ok (.getfield 15, 3) := by decide +kernel
theorem dX7_clear_4 : decode cX7_clear 4 = .ok (.istore_n 1, 1) := by decide +kernel
theorem dX7_clear_5 : decode cX7_clear 5 = .ok (.aload_n 0, 1) := by decide +kernel
theorem dX7_clear_6 : decode cX7_clear 6 = .ok (.iconst 0, 1) := by decide +kernel
theorem dX7_clear_7 : decode cX7_clear 7 = .ok (.putfield 15, 3) := by decide +kernel
theorem dX7_clear_10 : decode cX7_clear 10 = .ok (.iload_n 1, 1) := by decide +kernel
theorem dX7_clear_11 : decode cX7_clear 11 = .ok (.ireturn, 1) := by decide +kernel
end
section
theorem dX8_init_0 : decode cX8_init 0 = .ok (.aload_n 0, 1) := by decide +kernel
theorem dX8_init_1 : decode cX8_init 1 = .ok (.invokespecial 3, 3) := by decide +kernel
theorem dX8_init_4 : decode cX8_init 4 = .ok (.aload_n 0, 1) := by decide +kernel
theorem dX8_init_5 : decode cX8_init 5 = .ok (.new 9, 3) := by decide +kernel
theorem dX8_init_8 : decode cX8_init 8 = .ok (.dup, 1) := by decide +kernel
theorem dX8_init_9 : decode cX8_init 9 = .ok (.aload_n 1, 1) := by decide +kernel
theorem dX8_init_10 : decode cX8_init 10 = .ok (.invokespecial 11, 3) := by decide +kernel
theorem dX8_init_13 : decode cX8_init 13 = .ok (.putfield 14, 3) := by decide +kernel
theorem dX8_init_16 : decode cX8_init 16 = .ok (.aload_n 0, 1) := by decide +kernel
theorem dX8_init_17 : decode cX8_init 17 = .ok (.new 20, 3) := by decide +kernel
theorem dX8_init_20 : decode cX8_init 20 = .ok (.dup, 1) := by decide +kernel
theorem dX8_init_21 : decode cX8_init 21 = .ok (.invokespecial 22, 3) := by decide +kernel
theorem dX8_init_24 : decode cX8_init 24 = .ok (.putfield 23, 3) := by decide +kernel
theorem dX8_init_27 : decode cX8_init 27 = .ok (.aload_n 0, 1) := by decide +kernel
theorem dX8_init_28 : decode cX8_init 28 = .ok (.iconst (-1), 1) := by decide +kernel
theorem dX8_init_29 : decode cX8_init 29 = .ok (.putfield 27, 3) := by decide +kernel
theorem dX8_init_32 : decode cX8_init 32 = .ok (.return_, 1) := by decide +kernel
theorem dX8_translate_0 : decode cX8_translate 0 = .ok (.aload_n 0, 1) := by decide +kernel
theorem dX8_translate_1 : decode cX8_translate 1 = .ok (.aload_n 1, 1) := by decide +kernel
theorem dX8_translate_2 : decode cX8_translate 2 = .ok (.putfield 31, 3) := by decide +kernel
theorem dX8_translate_5 : decode cX8_translate 5 = .ok (.aload_n 0, 1) := by decide +kernel
theorem dX8_translate_6 : decode cX8_translate 6 = .ok (.getfield 31, 3) := by decide +kernel
theorem dX8_translate_9 : decode cX8_translate 9 = .ok (.invokevirtual 35, 3) := by decide +kernel
theorem dX8_translate_12 : decode cX8_translate 12 = .ok (.aload_n 0, 1) := by decide +kernel
theorem dX8_translate_13 : decode cX8_translate 13 = .ok (.getfield 14, 3) := by decide +kernel
theorem dX8_translate_16 : decode cX8_translate 16 = .ok (.invokevirtual 40, 3) := by decide +kernel
theorem dX8_translate_19 : decode cX8_translate 19 = .ok (.aload_n 0, 1) := by decide +kernel
theorem dX8_translate_20 : decode cX8_translate 20 = .ok (.getfield 23, 3) := by decide +kernel
theorem dX8_translate_23 : decode cX8_translate 23 = .ok (.aload_n 0, 1) := by decide +kernel
theorem dX8_translate_24 : decode cX8_translate 24 = .ok (.getfield 31, 3) := by decide +kernel
theorem dX8_translate_27 : decode cX8_translate 27 = .ok (.invokevirtual 43, 3) := by decide +kernel
theorem dX8_translate_30 : decode cX8_translate 30 = .ok (.aload_n 0, 1) := by decide +kernel
theorem dX8_translate_31 : decode cX8_translate 31 = .ok (.iconst 0, 1) := by decide +kernel
theorem dX8_translate_32 : decode cX8_translate 32 = .ok (.putfield 47, 3) := by decide +kernel
theorem dX8_translate_35 : decode cX8_translate 35 = .ok (.aload_n 0, 1) := by decide +kernel
theorem dX8_translate_36 : decode cX8_translate 36 = .ok (.iconst 0, 1) := by decide +kernel
theorem dX8_translate_37 : decode cX8_translate 37 = .ok (.putfield 50, 3) := by decide +kernel
theorem dX8_translate_40 : decode cX8_translate 40 = .ok (.aload_n 0, 1) := by decide +kernel
theorem dX8_translate_41 : decode cX8_translate 41 = .ok (.iconst 0, 1) := by decide +kernel
theorem dX8_translate_42 : decode cX8_translate 42 = .ok (.putfield 53, 3) := by decide +kernel
theorem dX8_translate_45 : decode cX8_translate 45 = .ok (.aload_n 0, 1) := by decide +kernel
theorem dX8_translate_46 : decode cX8_translate 46 = .ok (.iconst (-1), 1) := by decide +kernel
theorem dX8_translate_47 : decode cX8_translate 47 = .ok (.putfield 27, 3) := by decide +kernel
theorem dX8_translate_50 : decode cX8_translate 50 = .ok (.aload_n 0, 1) := by decide +kernel
theorem dX8_translate_51 : decode cX8_translate 51 = .ok (.invokevirtual 56, 3) := by decide +kernel
theorem dX8_translate_54 : decode cX8_translate 54 = .ok (.ifCond .eq 11, 3) := by decide +kernel
theorem dX8_translate_57 : decode cX8_translate 57 = .ok (.aload_n 0, 1) := by decide +kernel
theorem dX8_translate_58 : decode cX8_translate 58 = .ok (.iconst (-1), 1) := by decide +kernel
theorem dX8_translate_59 : decode cX8_translate 59 = .ok (.invokevirtual 60, 3) := by decide +kernel
theorem dX8_translate_62 : decode cX8_translate 62 = .ok (.ifCond .ne 5, 3) := by decide +kernel
theorem dX8_translate_65 : decode cX8_translate 65 = .ok (.iconst 0, 1) := by decide +kernel
theorem dX8_translate_66 : decode cX8_translate 66 = .ok (.ireturn, 1) := by decide +kernel
theorem dX8_translate_67 : decode cX8_translate 67 = .ok (.aload_n 0, 1) := by decide +kernel
theorem dX8_translate_68 : decode cX8_translate 68 = .ok (.getfield 23, 3) := by decide +kernel
theorem dX8_translate_71 : decode cX8_translate 71 = .ok (.invokevirtual 64, 3) := by decide +kernel
theorem dX8_translate_74 : decode cX8_translate 74 = .ok (.iconst 1, 1) := by decide +kernel
theorem dX8_translate_75 : decode cX8_translate 75 = .ok (.ireturn, 1) := by decide +kernel
theorem dX8_statements_0 : decode cX8_statements 0 = .ok (.iconst 0, 1) := by decide +kernel
theorem dX8_statements_1 : decode cX8_statements 1 = .ok (.istore_n 1, 1) := by decide +kernel
theorem dX8_statements_2 : decode cX8_statements 2 = .ok (.iload_n 1, 1) := by decide +kernel
theorem dX8_statements_3 : decode cX8_statements 3 = .ok (.sipush 700, 3) := by decide +kernel
theorem dX8_statements_6 : decode cX8_statements 6 = .ok (.if_icmp .ge 28, 3) := by decide +kernel
theorem dX8_statements_9 : decode cX8_statements 9 = .ok (.aload_n 0, 1) := by decide +kernel
theorem dX8_statements_10 : decode cX8_statements 10 = .ok (.getfield 14, 3) := by decide +kernel
theorem dX8_statements_13 : decode cX8_statements 13 = .ok (.invokevirtual 67, 3) := by decide +kernel
theorem dX8_statements_16 : decode cX8_statements 16 = .ok (.ifCond .eq 18, 3) := by decide +kernel
theorem dX8_statements_19 : decode cX8_statements 19 = .ok (.aload_n 0, 1) := by decide +kernel
theorem dX8_statements_20 : decode cX8_statements 20 = .ok (.invokevirtual 70, 3) := by decide +kernel
theorem dX8_statements_23 : decode cX8_statements 23 = .ok (.ifCond .ne 5, 3) := by decide +kernel
theorem dX8_statements_26 : decode cX8_statements 26 = .ok (.iconst 0, 1) := by decide +kernel
theorem dX8_statements_27 : decode cX8_statements 27 = .ok (.ireturn, 1) := by decide +kernel
theorem dX8_statements_28 : decode cX8_statements 28 = .ok (.iinc 1 1, 3) := by decide +kernel
theorem dX8_statements_31 : decode cX8_statements 31 = .ok (.goto (-29), 3) := by decide +kernel
theorem dX8_statements_34 : decode cX8_statements 34 = .ok (.iconst 1, 1) := by decide +kernel
theorem dX8_statements_35 : decode cX8_statements 35 = .ok (.ireturn, 1) := by decide +kernel
theorem dX8_statement_0 : decode cX8_statement 0 = .ok (.aload_n 0, 1) := by decide +kernel
theorem dX8_statement_1 : decode cX8_statement 1 = .ok (.getfield 14, 3) := by decide +kernel
theorem dX8_statement_4 : decode cX8_statement 4 = .ok (.ldc 73, 2) := by decide +kernel
theorem dX8_statement_6 : decode cX8_statement 6 = .ok (.invokevirtual 75, 3) := by decide +kernel
theorem dX8_statement_9 : decode cX8_statement 9 = .ok (.ifCond .eq 8, 3) := by decide +kernel
theorem dX8_statement_12 : decode cX8_statement 12 = .ok (.aload_n 0, 1) := by decide +kernel
theorem dX8_statement_13 : decode cX8_statement 13 = .ok (.invokevirtual 79, 3) := by decide +kernel
theorem dX8_statement_16 : decode cX8_statement 16 = .ok (.ireturn, 1) := by decide +kernel
theorem dX8_statement_17 : decode cX8_statement 17 = .ok (.aload_n 0, 1) := by decide +kernel
theorem dX8_statement_18 : decode cX8_statement 18 = .ok (.getfield 14, 3) := by decide +kernel
theorem dX8_statement_21 : decode cX8_statement 21 = .ok (.ldc 82, 2) := by decide +kernel
theorem dX8_statement_23 : decode cX8_statement 23 = .ok (.invokevirtual 75, 3) := by decide +kernel
theorem dX8_statement_26 : decode cX8_statement 26 = .ok (.ifCond .eq 8, 3) := by decide +kernel
theorem dX8_statement_29 : decode cX8_statement 29 = .ok (.aload_n 0, 1) := by decide +kernel
theorem dX8_statement_30 : decode cX8_statement 30 = .ok (.invokevirtual 84, 3) := by decide +kernel
theorem dX8_statement_33 : decode cX8_statement 33 = .ok (.ireturn, 1) := by decide +kernel
theorem dX8_statement_34 : decode cX8_statement 34 = .ok (.aload_n 0, 1) := by decide +kernel
theorem dX8_statement_35 : decode cX8_statement 35 = .ok (.getfield 14, 3) := by decide +kernel
theorem dX8_statement_38 : decode cX8_statement 38 = .ok (.ldc 87, 2) := by decide +kernel
theorem dX8_statement_40 : decode cX8_statement 40 = .ok (.invokevirtual 75, 3) := by decide +kernel
theorem dX8_statement_43 : decode cX8_statement 43 = .ok (.ifCond .eq 8, 3) := by decide +kernel
theorem dX8_statement_46 : decode cX8_statement 46 = .ok (.aload_n 0, 1) := by decide +kernel
theorem dX8_statement_47 : decode cX8_statement 47 = .ok (.invokevirtual 89, 3) := by decide +kernel
theorem dX8_statement_50 : decode cX8_statement 50 = .ok (.ireturn, 1) := by decide +kernel
theorem dX8_statement_51 : decode cX8_statement 51 = .ok (.aload_n 0, 1) := by decide +kernel
theorem dX8_statement_52 : decode cX8_statement 52 = .ok (.getfield 14, 3) := by decide +kernel
theorem dX8_statement_55 : decode cX8_statement 55 = .ok (.invokevirtual 92, 3) := by decide +kernel
theorem dX8_statement_58 : decode cX8_statement 58 = .ok (.istore_n 1, 1) := by decide +kernel
theorem dX8_statement_59 : decode cX8_statement 59 = .ok (.iload_n 1, 1) := by decide +kernel
theorem dX8_statement_60 : decode cX8_statement 60 = .ok (.iconst (-1), 1) := by decide +kernel
theorem dX8_statement_61 : decode cX8_statement 61 = .ok (.if_icmp .ne 11, 3) := by decide +kernel
theorem dX8_statement_64 : decode cX8_statement 64 = .ok (.aload_n 0, 1) := by decide +kernel
theorem dX8_statement_65 : decode cX8_statement 65 = .ok (.iconst 1, 1) := by decide +kernel
theorem dX8_statement_66 : decode cX8_statement 66 = .ok (.invokevirtual 96, 3) := by decide +kernel
theorem dX8_statement_69 : decode cX8_statement 69 = .ok (.goto 8, 3) := by decide +kernel
theorem dX8_statement_72 : decode cX8_statement 72 = .ok (.aload_n 0, 1) := by decide +kernel
theorem dX8_statement_73 : decode cX8_statement 73 = .ok (.iload_n 1, 1) := by decide +kernel
theorem dX8_statement_74 : decode cX8_statement 74 = .ok (.invokevirtual 99, 3) := by decide +kernel
theorem dX8_statement_77 : decode cX8_statement 77 = .ok (.ireturn, 1) := by decide +kernel
theorem dX8_assignment_0 : decode cX8_assignment 0 = .ok (.aload_n 0, 1) := by decide +kernel
theorem dX8_assignment_1 : decode cX8_assignment 1 = .ok (.getfield 14, 3) := by decide +kernel
theorem dX8_assignment_4 : decode cX8_assignment 4 = .ok (.getfield 102, 3) := by decide +kernel
theorem dX8_assignment_7 : decode cX8_assignment 7 = .ok (.istore_n 2, 1) := by decide +kernel
theorem dX8_assignment_8 : decode cX8_assignment 8 = .ok (.aload_n 0, 1) := by decide +kernel
theorem dX8_assignment_9 : decode cX8_assignment 9 = .ok (.getfield 14, 3) := by decide +kernel
theorem dX8_assignment_12 : decode cX8_assignment 12 = .ok (.iconst 1, 1) := by decide +kernel
theorem dX8_assignment_13 : decode cX8_assignment 13 = .ok (.invokevirtual 103, 3) := by decide +kernel
theorem dX8_assignment_16 : decode cX8_assignment 16 = .ok (.aload_n 0, 1) := by decide +kernel
theorem dX8_assignment_17 : decode cX8_assignment 17 = .ok (.getfield 23, 3) := by decide +kernel
theorem dX8_assignment_20 : decode cX8_assignment 20 = .ok (.invokevirtual 107, 3) := by decide +kernel
theorem dX8_assignment_23 : decode cX8_assignment 23 = .ok (.aload_n 0, 1) := by decide +kernel
theorem dX8_assignment_24 : decode cX8_assignment 24 = .ok (.bipush 61, 2) := by decide +kernel
theorem dX8_assignment_26 : decode cX8_assignment 26 = .ok (.invokevirtual 110, 3) := by decide +kernel
theorem dX8_assignment_29 : decode cX8_assignment 29 = .ok (.ifCond .ne 5, 3) := by decide +kernel
theorem dX8_assignment_32 : decode cX8_assignment 32 = .ok (.iconst 0, 1) := by decide +kernel
theorem dX8_assignment_33 : decode cX8_assignment 33 = .ok (.ireturn, 1) := by decide +kernel
theorem dX8_assignment_34 : decode cX8_assignment 34 = .ok (.aload_n 0, 1) := by decide +kernel
theorem dX8_assignment_35 : decode cX8_assignment 35 = .ok (.invokevirtual 113, 3) := by decide +kernel
theorem dX8_assignment_38 : decode cX8_assignment 38 = .ok (.istore_n 3, 1) := by decide +kernel
theorem dX8_assignment_39 : decode cX8_assignment 39 = .ok (.iload_n 3, 1) := by decide +kernel
theorem dX8_assignment_40 : decode cX8_assignment 40 = .ok (.sipush (-209), 3) := by decide +kernel
theorem dX8_assignment_43 : decode cX8_assignment 43 = .ok (.if_icmp .eq 12, 3) := by decide +kernel
theorem dX8_assignment_46 : decode cX8_assignment 46 = .ok (.aload_n 0, 1) := by decide +kernel
theorem dX8_assignment_47 : decode cX8_assignment 47 = .ok (.bipush 59, 2) := by decide +kernel
theorem dX8_assignment_49 : decode cX8_assignment 49 = .ok (.invokevirtual 110, 3) := by decide +kernel
theorem dX8_assignment_52 : decode cX8_assignment 52 = .ok (.ifCond .ne 5, 3) := by decide +kernel
theorem dX8_assignment_55 : decode cX8_assignment 55 = .ok (.iconst 0, 1) := by decide +kernel
theorem dX8_assignment_56 : decode cX8_assignment 56 = .ok (.ireturn, 1) := by decide +kernel
theorem dX8_assignment_57 : decode cX8_assignment 57 = .ok (.iload_n 3, 1) := by decide +kernel
theorem dX8_assignment_58 : decode cX8_assignment 58 = .ok (.invokestatic 118, 3) := by decide +kernel
theorem dX8_assignment_61 : decode cX8_assignment 61 = .ok (.ifCond .ne 12, 3) := by decide +kernel
theorem dX8_assignment_64 : decode cX8_assignment 64 = .ok (.aload_n 0, 1) := by decide +kernel
theorem dX8_assignment_65 : decode cX8_assignment 65 = .ok (.iconst 3, 1) := by decide +kernel
theorem dX8_assignment_66 : decode cX8_assignment 66 = .ok (.iload_n 3, 1) := by decide +kernel
theorem dX8_assignment_67 : decode cX8_assignment 67 = .ok (.iconst 0, 1) := by decide +kernel
theorem dX8_assignment_68 : decode cX8_assignment 68 = .ok (.iload_n 2, 1) := by decide +kernel
theorem dX8_assignment_69 : decode cX8_assignment 69 = .ok (.invokevirtual 121, 3) := by decide +kernel
theorem dX8_assignment_72 : decode cX8_assignment 72 = .ok (.istore_n 3, 1) := by decide +kernel
theorem dX8_assignment_73 : decode cX8_assignment 73 = .ok (.iload_n 3, 1) := by decide +kernel
theorem dX8_assignment_74 : decode cX8_assignment 74 = .ok (.sipush (-209), 3) := by decide +kernel
theorem dX8_assignment_77 : decode cX8_assignment 77 = .ok (.if_icmp .ne 5, 3) := by decide +kernel
theorem dX8_assignment_80 : decode cX8_assignment 80 = .ok (.iconst 0, 1) := by decide +kernel
theorem dX8_assignment_81 : decode cX8_assignment 81 = .ok (.ireturn, 1) := by decide +kernel
theorem dX8_assignment_82 : decode cX8_assignment 82 = .ok (.aload_n 0, 1) := by decide +kernel
theorem dX8_assignment_83 : decode cX8_assignment 83 = .ok (.getfield 31, 3) := by decide +kernel
theorem dX8_assignment_86 : decode cX8_assignment 86 = .ok (.getfield 125, 3) := by decide +kernel
theorem dX8_assignment_89 : decode cX8_assignment 89 = .ok (.iload_n 3, 1) := by decide +kernel
theorem dX8_assignment_90 : decode cX8_assignment 90 = .ok (.invokestatic 129, 3) := by decide +kernel
theorem dX8_assignment_93 : decode cX8_assignment 93 = .ok (.aaload, 1) := by decide +kernel
theorem dX8_assignment_94 : decode cX8_assignment 94 = .ok (.iload_n 1, 1) := by decide +kernel
theorem dX8_assignment_95 : decode cX8_assignment 95 = .ok (.putfield 133, 3) := by decide +kernel
theorem dX8_assignment_98 : decode cX8_assignment 98 = .ok (.iconst 1, 1) := by decide +kernel
theorem dX8_assignment_99 : decode cX8_assignment 99 = .ok (.ireturn, 1) := by decide +kernel
theorem dX8_write_0 : decode cX8_write 0 = .ok (.aload_n 0, 1) := by decide +kernel
theorem dX8_write_1 : decode cX8_write 1 = .ok (.getfield 14, 3) := by decide +kernel
theorem dX8_write_4 : decode cX8_write 4 = .ok (.getfield 102, 3) := by decide +kernel
theorem dX8_write_7 : decode cX8_write 7 = .ok (.istore_n 1, 1) := by decide +kernel
theorem dX8_write_8 : decode cX8_write 8 = .ok (.aload_n 0, 1) := by decide +kernel
theorem dX8_write_9 : decode cX8_write 9 = .ok (.getfield 14, 3) := by decide +kernel
theorem dX8_write_12 : decode cX8_write 12 = .ok (.iconst 1, 1) := by decide +kernel
theorem dX8_write_13 : decode cX8_write 13 = .ok (.invokevirtual 103, 3) := by decide +kernel
theorem dX8_write_16 : decode cX8_write 16 = .ok (.aload_n 0, 1) := by decide +kernel
theorem dX8_write_17 : decode cX8_write 17 = .ok (.getfield 23, 3) := by decide +kernel
theorem dX8_write_20 : decode cX8_write 20 = .ok (.invokevirtual 107, 3) := by decide +kernel
theorem dX8_write_23 : decode cX8_write 23 = .ok (.aload_n 0, 1) := by decide +kernel
theorem dX8_write_24 : decode cX8_write 24 = .ok (.bipush 91, 2) := by decide +kernel
theorem dX8_write_26 : decode cX8_write 26 = .ok (.bipush 93, 2) := by decide +kernel
theorem dX8_write_28 : decode cX8_write 28 = .ok (.invokevirtual 138, 3) := by decide +kernel
theorem dX8_write_31 : decode cX8_write 31 = .ok (.istore_n 2, 1) := by decide +kernel
theorem dX8_write_32 : decode cX8_write 32 = .ok (.iload_n 2, 1) := by decide +kernel
theorem dX8_write_33 : decode cX8_write 33 = .ok (.sipush (-209), 3) := by decide +kernel
theorem dX8_write_36 : decode cX8_write 36 = .ok (.if_icmp .eq 12, 3) := by decide +kernel
theorem dX8_write_39 : decode cX8_write 39 = .ok (.aload_n 0, 1) := by decide +kernel
theorem dX8_write_40 : decode cX8_write 40 = .ok (.bipush 61, 2) := by decide +kernel
theorem dX8_write_42 : decode cX8_write 42 = .ok (.invokevirtual 110, 3) := by decide +kernel
theorem dX8_write_45 : decode cX8_write 45 = .ok (.ifCond .ne 5, 3) := by decide +kernel
theorem dX8_write_48 : decode cX8_write 48 = .ok (.iconst 0, 1) := by decide +kernel
theorem dX8_write_49 : decode cX8_write 49 = .ok (.ireturn, 1) := by decide +kernel
theorem dX8_write_50 : decode cX8_write 50 = .ok (.aload_n 0, 1) := by decide +kernel
theorem dX8_write_51 : decode cX8_write 51 = .ok (.invokevirtual 113, 3) := by decide +kernel
theorem dX8_write_54 : decode cX8_write 54 = .ok (.istore_n 3, 1) := by decide +kernel
theorem dX8_write_55 : decode cX8_write 55 = .ok (.iload_n 3, 1) := by decide +kernel
theorem dX8_write_56 : decode cX8_write 56 = .ok (.sipush (-209), 3) := by decide +kernel
theorem dX8_write_59 : decode cX8_write 59 = .ok (.if_icmp .eq 12, 3) := by decide +kernel
theorem dX8_write_62 : decode cX8_write 62 = .ok (.aload_n 0, 1) := by decide +kernel
theorem dX8_write_63 : decode cX8_write 63 = .ok (.bipush 59, 2) := by decide +kernel
theorem dX8_write_65 : decode cX8_write 65 = .ok (.invokevirtual 110, 3) := by decide +kernel
theorem dX8_write_68 : decode cX8_write 68 = .ok (.ifCond .ne 5, 3) := by decide +kernel
theorem dX8_write_71 : decode cX8_write 71 = .ok (.iconst 0, 1) := by decide +kernel
theorem dX8_write_72 : decode cX8_write 72 = .ok (.ireturn, 1) := by decide +kernel
theorem dX8_write_73 : decode cX8_write 73 = .ok (.aload_n 0, 1) := by decide +kernel
theorem dX8_write_74 : decode cX8_write 74 = .ok (.iconst 2, 1) := by decide +kernel
theorem dX8_write_75 : decode cX8_write 75 = .ok (.iload_n 2, 1) := by decide +kernel
theorem dX8_write_76 : decode cX8_write 76 = .ok (.iload_n 3, 1) := by decide +kernel
theorem dX8_write_77 : decode cX8_write 77 = .ok (.iload_n 1, 1) := by decide +kernel
theorem dX8_write_78 : decode cX8_write 78 = .ok (.invokevirtual 121, 3) := by decide +kernel
theorem dX8_write_81 : decode cX8_write 81 = .ok (.sipush (-209), 3) := by decide +kernel
theorem dX8_write_84 : decode cX8_write 84 = .ok (.if_icmp .eq 7, 3) := by decide +kernel
theorem dX8_write_87 : decode cX8_write 87 = .ok (.iconst 1, 1) := by decide +kernel
theorem dX8_write_88 : decode cX8_write 88 = .ok (.goto 4, 3) := by decide +kernel
theorem dX8_write_91 : decode cX8_write 91 = .ok (.iconst 0, 1) := by decide +kernel
theorem dX8_write_92 : decode cX8_write 92 = .ok (.ireturn, 1) := by decide +kernel
theorem dX8_ifStatement_0 : decode cX8_ifStatement 0 = .ok (.aload_n 0, 1) := by decide +kernel
theorem dX8_ifStatement_1 : decode cX8_ifStatement 1 = .ok (.getfield 14, 3) := by decide +kernel
theorem dX8_ifStatement_4 : decode cX8_ifStatement 4 = .ok (.iconst 2, 1) := by decide +kernel
theorem dX8_ifStatement_5 : decode cX8_ifStatement 5 = .ok (.invokevirtual 103, 3) := by decide +kernel
theorem dX8_ifStatement_8 : decode cX8_ifStatement 8 = .ok (.aload_n 0, 1) := by decide +kernel
theorem dX8_ifStatement_9 : decode cX8_ifStatement 9 = .ok (.getfield 23, 3) := by decide +kernel
theorem dX8_ifStatement_12 : decode cX8_ifStatement 12 = .ok (.invokevirtual 142, 3) := by decide +kernel
theorem dX8_ifStatement_15 : decode cX8_ifStatement 15 = .ok (.istore_n 1, 1) := by decide +kernel
theorem dX8_ifStatement_16 : decode cX8_ifStatement 16 = .ok (.aload_n 0, 1) := by decide +kernel
theorem dX8_ifStatement_17 : decode cX8_ifStatement 17 = .ok (.getfield 23, 3) := by decide +kernel
theorem dX8_ifStatement_20 : decode cX8_ifStatement 20 = .ok (.invokevirtual 142, 3) := by decide +kernel
theorem dX8_ifStatement_23 : decode cX8_ifStatement 23 = .ok (.istore_n 2, 1) := by decide +kernel
theorem dX8_ifStatement_24 : decode cX8_ifStatement 24 = .ok (.aload_n 0, 1) := by decide +kernel
theorem dX8_ifStatement_25 : decode cX8_ifStatement 25 = .ok (.iload_n 1, 1) := by decide +kernel
theorem dX8_ifStatement_26 : decode cX8_ifStatement 26 = .ok (.iload_n 2, 1) := by decide +kernel
theorem dX8_ifStatement_27 : decode cX8_ifStatement 27 = .ok (.invokevirtual 145, 3) := by decide +kernel
theorem dX8_ifStatement_30 : decode cX8_ifStatement 30 = .ok (.ifCond .eq 11, 3) := by decide +kernel
theorem dX8_ifStatement_33 : decode cX8_ifStatement 33 = .ok (.aload_n 0, 1) := by decide +kernel
theorem dX8_ifStatement_34 : decode cX8_ifStatement 34 = .ok (.iload_n 1, 1) := by decide +kernel
theorem dX8_ifStatement_35 : decode cX8_ifStatement 35 = .ok (.invokevirtual 149, 3) := by decide +kernel
theorem dX8_ifStatement_38 : decode cX8_ifStatement 38 = .ok (.ifCond .ne 5, 3) := by decide +kernel
theorem dX8_ifStatement_41 : decode cX8_ifStatement 41 = .ok (.iconst 0, 1) := by decide +kernel
theorem dX8_ifStatement_42 : decode cX8_ifStatement 42 = .ok (.ireturn, 1) := by decide +kernel
theorem dX8_ifStatement_43 : decode cX8_ifStatement 43 = .ok (.aload_n 0, 1) := by decide +kernel
theorem dX8_ifStatement_44 : decode cX8_ifStatement 44 = .ok (.getfield 14, 3) := by decide +kernel
theorem dX8_ifStatement_47 : decode cX8_ifStatement 47 = .ok (.ldc 152, 2) := by decide +kernel
theorem dX8_ifStatement_49 : decode cX8_ifStatement 49 = .ok (.invokevirtual 75, 3) := by decide +kernel
theorem dX8_ifStatement_52 : decode cX8_ifStatement 52 = .ok (.ifCond .ne 21, 3) := by decide +kernel
theorem dX8_ifStatement_55 : decode cX8_ifStatement 55 = .ok (.aload_n 0, 1) := by decide +kernel
theorem dX8_ifStatement_56 : decode cX8_ifStatement 56 = .ok (.getfield 23, 3) := by decide +kernel
theorem dX8_ifStatement_59 : decode cX8_ifStatement 59 = .ok (.iload_n 2, 1) := by decide +kernel
theorem dX8_ifStatement_60 : decode cX8_ifStatement 60 = .ok (.invokevirtual 154, 3) := by decide +kernel
theorem dX8_ifStatement_63 : decode cX8_ifStatement 63 = .ok (.aload_n 0, 1) := by decide +kernel
theorem dX8_ifStatement_64 : decode cX8_ifStatement 64 = .ok (.getfield 23, 3) := by decide +kernel
theorem dX8_ifStatement_67 : decode cX8_ifStatement 67 = .ok (.iload_n 2, 1) := by decide +kernel
theorem dX8_ifStatement_68 : decode cX8_ifStatement 68 = .ok (.invokevirtual 157, 3) := by decide +kernel
theorem dX8_ifStatement_71 : decode cX8_ifStatement 71 = .ok (.iconst 1, 1) := by decide +kernel
theorem dX8_ifStatement_72 : decode cX8_ifStatement 72 = .ok (.ireturn, 1) := by decide +kernel
theorem dX8_ifStatement_73 : decode cX8_ifStatement 73 = .ok (.aload_n 0, 1) := by decide +kernel
theorem dX8_ifStatement_74 : decode cX8_ifStatement 74 = .ok (.getfield 14, 3) := by decide +kernel
theorem dX8_ifStatement_77 : decode cX8_ifStatement 77 = .ok (.iconst 4, 1) := by decide +kernel
theorem dX8_ifStatement_78 : decode cX8_ifStatement 78 = .ok (.invokevirtual 103, 3) := by decide +kernel
theorem dX8_ifStatement_81 : decode cX8_ifStatement 81 = .ok (.aload_n 0, 1) := by decide +kernel
theorem dX8_ifStatement_82 : decode cX8_ifStatement 82 = .ok (.getfield 23, 3) := by decide +kernel
theorem dX8_ifStatement_85 : decode cX8_ifStatement 85 = .ok (.invokevirtual 142, 3) := by decide +kernel
theorem dX8_ifStatement_88 : decode cX8_ifStatement 88 = .ok (.istore_n 3, 1) := by decide +kernel
theorem dX8_ifStatement_89 : decode cX8_ifStatement 89 = .ok (.aload_n 0, 1) := by decide +kernel
theorem dX8_ifStatement_90 : decode cX8_ifStatement 90 = .ok (.getfield 23, 3) := by decide +kernel
theorem dX8_ifStatement_93 : decode cX8_ifStatement 93 = .ok (.iload_n 3, 1) := by decide +kernel
theorem dX8_ifStatement_94 : decode cX8_ifStatement 94 = .ok (.invokevirtual 154, 3) := by decide +kernel
theorem dX8_ifStatement_97 : decode cX8_ifStatement 97 = .ok (.aload_n 0, 1) := by decide +kernel
theorem dX8_ifStatement_98 : decode cX8_ifStatement 98 = .ok (.iload_n 2, 1) := by decide +kernel
theorem dX8_ifStatement_99 : decode cX8_ifStatement 99 = .ok (.invokevirtual 149, 3) := by decide +kernel
theorem dX8_ifStatement_102 : decode cX8_ifStatement 102 = .ok (.ifCond .ne 5, 3) := by decide +kernel
theorem dX8_ifStatement_105 : decode cX8_ifStatement 105 = .ok (.iconst 0, 1) := by decide +kernel
theorem dX8_ifStatement_106 : decode cX8_ifStatement 106 = .ok (.ireturn, 1) := by decide +kernel
theorem dX8_ifStatement_107 : decode cX8_ifStatement 107 = .ok (.aload_n 0, 1) := by decide +kernel
theorem dX8_ifStatement_108 : decode cX8_ifStatement 108 = .ok (.getfield 23, 3) := by decide +kernel
theorem dX8_ifStatement_111 : decode cX8_ifStatement 111 = .ok (.iload_n 3, 1) := by decide +kernel
theorem dX8_ifStatement_112 : decode cX8_ifStatement 112 = .ok (.invokevirtual 154, 3) := by decide +kernel
theorem dX8_ifStatement_115 : decode cX8_ifStatement 115 = .ok (.aload_n 0, 1) := by decide +kernel
theorem dX8_ifStatement_116 : decode cX8_ifStatement 116 = .ok (.getfield 23, 3) := by decide +kernel
theorem dX8_ifStatement_119 : decode cX8_ifStatement 119 = .ok (.iload_n 3, 1) := by decide +kernel
theorem dX8_ifStatement_120 : decode cX8_ifStatement 120 = .ok (.invokevirtual 157, 3) := by decide +kernel
theorem dX8_ifStatement_123 : decode cX8_ifStatement 123 = .ok (.iconst 1, 1) := by decide +kernel
theorem dX8_ifStatement_124 : decode cX8_ifStatement 124 = .ok (.ireturn, 1) := by decide +kernel
theorem dX8_whileStatement_0 : decode cX8_whileStatement 0 = .ok (.aload_n 0, 1) := by decide +kernel
theorem dX8_whileStatement_1 : decode cX8_whileStatement 1 = .ok (.getfield 14, 3) := by decide +kernel
theorem dX8_whileStatement_4 : decode cX8_whileStatement 4 = .ok (.iconst 5, 1) := by decide +kernel
theorem dX8_whileStatement_5 : decode cX8_whileStatement 5 = .ok (.invokevirtual 103, 3) := by decide +kernel
theorem dX8_whileStatement_8 : decode cX8_whileStatement 8 = .ok (.aload_n 0, 1) := by decide +kernel
theorem dX8_whileStatement_9 : decode cX8_whileStatement 9 = .ok (.getfield 23, 3) := by decide +kernel
theorem dX8_whileStatement_12 : decode cX8_whileStatement 12 = .ok (.invokevirtual 142, 3) := by decide +kernel
theorem dX8_whileStatement_15 : decode cX8_whileStatement 15 = .ok (.istore_n 1, 1) := by decide +kernel
theorem dX8_whileStatement_16 : decode cX8_whileStatement 16 = .ok (.aload_n 0, 1) := by decide +kernel
theorem dX8_whileStatement_17 : decode cX8_whileStatement 17 = .ok (.getfield 23, 3) := by decide +kernel
theorem dX8_whileStatement_20 : decode cX8_whileStatement 20 = .ok (.invokevirtual 142, 3) := by decide +kernel
theorem dX8_whileStatement_23 : decode cX8_whileStatement 23 = .ok (.istore_n 2, 1) := by decide +kernel
theorem dX8_whileStatement_24 : decode cX8_whileStatement 24 = .ok (.aload_n 0, 1) := by decide +kernel
theorem dX8_whileStatement_25 : decode cX8_whileStatement 25 = .ok (.getfield 23, 3) := by decide +kernel
theorem dX8_whileStatement_28 : decode cX8_whileStatement 28 = .ok (.invokevirtual 142, 3) := by decide +kernel
theorem dX8_whileStatement_31 : decode cX8_whileStatement 31 = .ok (.istore_n 3, 1) := by decide +kernel
theorem dX8_whileStatement_32 : decode cX8_whileStatement 32 = .ok (.aload_n 0, 1) := by decide +kernel
theorem dX8_whileStatement_33 : decode cX8_whileStatement 33 = .ok (.getfield 23, 3) := by decide +kernel
theorem dX8_whileStatement_36 : decode cX8_whileStatement 36 = .ok (.iload_n 1, 1) := by decide +kernel
theorem dX8_whileStatement_37 : decode cX8_whileStatement 37 = .ok (.invokevirtual 154, 3) := by decide +kernel
theorem dX8_whileStatement_40 : decode cX8_whileStatement 40 = .ok (.aload_n 0, 1) := by decide +kernel
theorem dX8_whileStatement_41 : decode cX8_whileStatement 41 = .ok (.getfield 23, 3) := by decide +kernel
theorem dX8_whileStatement_44 : decode cX8_whileStatement 44 = .ok (.iload_n 1, 1) := by decide +kernel
theorem dX8_whileStatement_45 : decode cX8_whileStatement 45 = .ok (.invokevirtual 157, 3) := by decide +kernel
theorem dX8_whileStatement_48 : decode cX8_whileStatement 48 = .ok (.aload_n 0, 1) := by decide +kernel
theorem dX8_whileStatement_49 : decode cX8_whileStatement 49 = .ok (.iload_n 2, 1) := by decide +kernel
theorem dX8_whileStatement_50 : decode cX8_whileStatement 50 = .ok (.iload_n 3, 1) := by decide +kernel
theorem dX8_whileStatement_51 : decode cX8_whileStatement 51 = .ok (.invokevirtual 145, 3) := by decide +kernel
theorem dX8_whileStatement_54 : decode cX8_whileStatement 54 = .ok (.ifCond .eq 11, 3) := by decide +kernel
theorem dX8_whileStatement_57 : decode cX8_whileStatement 57 = .ok (.aload_n 0, 1) := by decide +kernel
theorem dX8_whileStatement_58 : decode cX8_whileStatement 58 = .ok (.iload_n 2, 1) := by decide +kernel
theorem dX8_whileStatement_59 : decode cX8_whileStatement 59 = .ok (.invokevirtual 149, 3) := by decide +kernel
theorem dX8_whileStatement_62 : decode cX8_whileStatement 62 = .ok (.ifCond .ne 5, 3) := by decide +kernel
theorem dX8_whileStatement_65 : decode cX8_whileStatement 65 = .ok (.iconst 0, 1) := by decide +kernel
theorem dX8_whileStatement_66 : decode cX8_whileStatement 66 = .ok (.ireturn, 1) := by decide +kernel
theorem dX8_whileStatement_67 : decode cX8_whileStatement 67 = .ok (.aload_n 0, 1) := by decide +kernel
theorem dX8_whileStatement_68 : decode cX8_whileStatement 68 = .ok (.getfield 23, 3) := by decide +kernel
theorem dX8_whileStatement_71 : decode cX8_whileStatement 71 = .ok (.iload_n 1, 1) := by decide +kernel
theorem dX8_whileStatement_72 : decode cX8_whileStatement 72 = .ok (.invokevirtual 154, 3) := by decide +kernel
theorem dX8_whileStatement_75 : decode cX8_whileStatement 75 = .ok (.aload_n 0, 1) := by decide +kernel
theorem dX8_whileStatement_76 : decode cX8_whileStatement 76 = .ok (.getfield 23, 3) := by decide +kernel
theorem dX8_whileStatement_79 : decode cX8_whileStatement 79 = .ok (.iload_n 3, 1) := by decide +kernel
theorem dX8_whileStatement_80 : decode cX8_whileStatement 80 = .ok (.invokevirtual 157, 3) := by decide +kernel
theorem dX8_whileStatement_83 : decode cX8_whileStatement 83 = .ok (.iconst 1, 1) := by decide +kernel
theorem dX8_whileStatement_84 : decode cX8_whileStatement 84 = .ok (.ireturn, 1) := by decide +kernel
theorem dX8_choice_0 : decode cX8_choice 0 = .ok (.aload_n 0, 1) := by decide +kernel
theorem dX8_choice_1 : decode cX8_choice 1 = .ok (.getfield 23, 3) := by decide +kernel
theorem dX8_choice_4 : decode cX8_choice 4 = .ok (.invokevirtual 107, 3) := by decide +kernel
theorem dX8_choice_7 : decode cX8_choice 7 = .ok (.aload_n 0, 1) := by decide +kernel
theorem dX8_choice_8 : decode cX8_choice 8 = .ok (.invokevirtual 113, 3) := by decide +kernel
theorem dX8_choice_11 : decode cX8_choice 11 = .ok (.istore_n 3, 1) := by decide +kernel
theorem dX8_choice_12 : decode cX8_choice 12 = .ok (.iload_n 3, 1) := by decide +kernel
theorem dX8_choice_13 : decode cX8_choice 13 = .ok (.sipush (-209), 3) := by decide +kernel
theorem dX8_choice_16 : decode cX8_choice 16 = .ok (.if_icmp .ne 5, 3) := by decide +kernel
theorem dX8_choice_19 : decode cX8_choice 19 = .ok (.iconst 0, 1) := by decide +kernel
theorem dX8_choice_20 : decode cX8_choice 20 = .ok (.ireturn, 1) := by decide +kernel
theorem dX8_choice_21 : decode cX8_choice 21 = .ok (.aload_n 0, 1) := by decide +kernel
theorem dX8_choice_22 : decode cX8_choice 22 = .ok (.getfield 23, 3) := by decide +kernel
theorem dX8_choice_25 : decode cX8_choice 25 = .ok (.iload_n 3, 1) := by decide +kernel
theorem dX8_choice_26 : decode cX8_choice 26 = .ok (.iload_n 1, 1) := by decide +kernel
theorem dX8_choice_27 : decode cX8_choice 27 = .ok (.iload_n 2, 1) := by decide +kernel
theorem dX8_choice_28 : decode cX8_choice 28 = .ok (.invokevirtual 160, 3) := by decide +kernel
theorem dX8_choice_31 : decode cX8_choice 31 = .ok (.iconst 1, 1) := by decide +kernel
theorem dX8_choice_32 : decode cX8_choice 32 = .ok (.ireturn, 1) := by decide +kernel
theorem dX8_body_0 : decode cX8_body 0 = .ok (.aload_n 0, 1) := by decide +kernel
theorem dX8_body_1 : decode cX8_body 1 = .ok (.bipush 123, 2) := by decide +kernel
theorem dX8_body_3 : decode cX8_body 3 = .ok (.invokevirtual 60, 3) := by decide +kernel
theorem dX8_body_6 : decode cX8_body 6 = .ok (.ifCond .ne 5, 3) := by decide +kernel
theorem dX8_body_9 : decode cX8_body 9 = .ok (.iconst 0, 1) := by decide +kernel
theorem dX8_body_10 : decode cX8_body 10 = .ok (.ireturn, 1) := by decide +kernel
theorem dX8_body_11 : decode cX8_body 11 = .ok (.aload_n 0, 1) := by decide +kernel
theorem dX8_body_12 : decode cX8_body 12 = .ok (.getfield 47, 3) := by decide +kernel
theorem dX8_body_15 : decode cX8_body 15 = .ok (.bipush 10, 2) := by decide +kernel
theorem dX8_body_17 : decode cX8_body 17 = .ok (.if_icmp .ne 9, 3) := by decide +kernel
theorem dX8_body_20 : decode cX8_body 20 = .ok (.aload_n 0, 1) := by decide +kernel
theorem dX8_body_21 : decode cX8_body 21 = .ok (.iconst 3, 1) := by decide +kernel
theorem dX8_body_22 : decode cX8_body 22 = .ok (.invokevirtual 96, 3) := by decide +kernel
theorem dX8_body_25 : decode cX8_body 25 = .ok (.ireturn, 1) := by decide +kernel
theorem dX8_body_26 : decode cX8_body 26 = .ok (.aload_n 0, 1) := by decide +kernel
theorem dX8_body_27 : decode cX8_body 27 = .ok (.dup, 1) := by decide +kernel
theorem dX8_body_28 : decode cX8_body 28 = .ok (.getfield 47, 3) := by decide +kernel
theorem dX8_body_31 : decode cX8_body 31 = .ok (.iconst 1, 1) := by decide +kernel
theorem dX8_body_32 : decode cX8_body 32 = .ok (.iadd, 1) := by decide +kernel
theorem dX8_body_33 : decode cX8_body 33 = .ok (.putfield 47, 3) := by decide +kernel
theorem dX8_body_36 : decode cX8_body 36 = .ok (.aload_n 0, 1) := by decide +kernel
theorem dX8_body_37 : decode cX8_body 37 = .ok (.getfield 14, 3) := by decide +kernel
theorem dX8_body_40 : decode cX8_body 40 = .ok (.iconst 1, 1) := by decide +kernel
theorem dX8_body_41 : decode cX8_body 41 = .ok (.invokevirtual 103, 3) := by decide +kernel
theorem dX8_body_44 : decode cX8_body 44 = .ok (.aload_n 0, 1) := by decide +kernel
theorem dX8_body_45 : decode cX8_body 45 = .ok (.getfield 23, 3) := by decide +kernel
theorem dX8_body_48 : decode cX8_body 48 = .ok (.iload_n 1, 1) := by decide +kernel
theorem dX8_body_49 : decode cX8_body 49 = .ok (.invokevirtual 157, 3) := by decide +kernel
theorem dX8_body_52 : decode cX8_body 52 = .ok (.aload_n 0, 1) := by decide +kernel
theorem dX8_body_53 : decode cX8_body 53 = .ok (.invokevirtual 56, 3) := by decide +kernel
theorem dX8_body_56 : decode cX8_body 56 = .ok (.ifCond .eq 12, 3) := by decide +kernel
theorem dX8_body_59 : decode cX8_body 59 = .ok (.aload_n 0, 1) := by decide +kernel
theorem dX8_body_60 : decode cX8_body 60 = .ok (.bipush 125, 2) := by decide +kernel
theorem dX8_body_62 : decode cX8_body 62 = .ok (.invokevirtual 110, 3) := by decide +kernel
theorem dX8_body_65 : decode cX8_body 65 = .ok (.ifCond .ne 5, 3) := by decide +kernel
theorem dX8_body_68 : decode cX8_body 68 = .ok (.iconst 0, 1) := by decide +kernel
theorem dX8_body_69 : decode cX8_body 69 = .ok (.ireturn, 1) := by decide +kernel
theorem dX8_body_70 : decode cX8_body 70 = .ok (.aload_n 0, 1) := by decide +kernel
theorem dX8_body_71 : decode cX8_body 71 = .ok (.dup, 1) := by decide +kernel
theorem dX8_body_72 : decode cX8_body 72 = .ok (.getfield 47, 3) := by decide +kernel
theorem dX8_body_75 : decode cX8_body 75 = .ok (.iconst 1, 1) := by decide +kernel
theorem dX8_body_76 : decode cX8_body 76 = .ok (.isub, 1) := by decide +kernel
theorem dX8_body_77 : decode cX8_body 77 = .ok (.putfield 47, 3) := by decide +kernel
theorem dX8_body_80 : decode cX8_body 80 = .ok (.iconst 1, 1) := by decide +kernel
theorem dX8_body_81 : decode cX8_body 81 = .ok (.ireturn, 1) := by decide +kernel
theorem dX8_expression_0 : decode cX8_expression 0 = .ok (.aload_n 0, 1) := by decide +kernel
theorem dX8_expression_1 : decode cX8_expression 1 = .ok (.invokevirtual 164, 3) := by decide +kernel
theorem dX8_expression_4 : decode cX8_expression 4 = .ok (.istore_n 1, 1) := by decide +kernel
theorem dX8_expression_5 : decode cX8_expression 5 = .ok (.iload_n 1, 1) := by decide +kernel
theorem dX8_expression_6 : decode cX8_expression 6 = .ok (.sipush (-209), 3) := by decide +kernel
theorem dX8_expression_9 : decode cX8_expression 9 = .ok (.if_icmp .ne 5, 3) := by decide +kernel
theorem dX8_expression_12 : decode cX8_expression 12 = .ok (.iload_n 1, 1) := by decide +kernel
theorem dX8_expression_13 : decode cX8_expression 13 = .ok (.ireturn, 1) := by decide +kernel
theorem dX8_expression_14 : decode cX8_expression 14 = .ok (.aload_n 0, 1) := by decide +kernel
theorem dX8_expression_15 : decode cX8_expression 15 = .ok (.getfield 14, 3) := by decide +kernel
theorem dX8_expression_18 : decode cX8_expression 18 = .ok (.invokevirtual 167, 3) := by decide +kernel
theorem dX8_expression_21 : decode cX8_expression 21 = .ok (.istore_n 2, 1) := by decide +kernel
theorem dX8_expression_22 : decode cX8_expression 22 = .ok (.iload_n 2, 1) := by decide +kernel
theorem dX8_expression_23 : decode cX8_expression 23 = .ok (.bipush 60, 2) := by decide +kernel
theorem dX8_expression_25 : decode cX8_expression 25 = .ok (.if_icmp .eq 11, 3) := by decide +kernel
theorem dX8_expression_28 : decode cX8_expression 28 = .ok (.iload_n 2, 1) := by decide +kernel
theorem dX8_expression_29 : decode cX8_expression 29 = .ok (.bipush 61, 2) := by decide +kernel
theorem dX8_expression_31 : decode cX8_expression 31 = .ok (.if_icmp .eq 5, 3) := by decide +kernel
theorem dX8_expression_34 : decode cX8_expression 34 = .ok (.iload_n 1, 1) := by decide +kernel
theorem dX8_expression_35 : decode cX8_expression 35 = .ok (.ireturn, 1) := by decide +kernel
theorem dX8_expression_36 : decode cX8_expression 36 = .ok (.aload_n 0, 1) := by decide +kernel
theorem dX8_expression_37 : decode cX8_expression 37 = .ok (.getfield 14, 3) := by decide +kernel
theorem dX8_expression_40 : decode cX8_expression 40 = .ok (.getfield 102, 3) := by decide +kernel
theorem dX8_expression_43 : decode cX8_expression 43 = .ok (.istore_n 3, 1) := by decide +kernel
theorem dX8_expression_44 : decode cX8_expression 44 = .ok (.aload_n 0, 1) := by decide +kernel
theorem dX8_expression_45 : decode cX8_expression 45 = .ok (.getfield 14, 3) := by decide +kernel
theorem dX8_expression_48 : decode cX8_expression 48 = .ok (.iconst 1, 1) := by decide +kernel
theorem dX8_expression_49 : decode cX8_expression 49 = .ok (.invokevirtual 103, 3) := by decide +kernel
theorem dX8_expression_52 : decode cX8_expression 52 = .ok (.aload_n 0, 1) := by decide +kernel
theorem dX8_expression_53 : decode cX8_expression 53 = .ok (.iload_n 2, 1) := by decide +kernel
theorem dX8_expression_54 : decode cX8_expression 54 = .ok (.iload_n 1, 1) := by decide +kernel
theorem dX8_expression_55 : decode cX8_expression 55 = .ok (.aload_n 0, 1) := by decide +kernel
theorem dX8_expression_56 : decode cX8_expression 56 = .ok (.invokevirtual 164, 3) := by decide +kernel
theorem dX8_expression_59 : decode cX8_expression 59 = .ok (.iload_n 3, 1) := by decide +kernel
theorem dX8_expression_60 : decode cX8_expression 60 = .ok (.invokevirtual 121, 3) := by decide +kernel
theorem dX8_expression_63 : decode cX8_expression 63 = .ok (.ireturn, 1) := by decide +kernel
theorem dX8_sum_0 : decode cX8_sum 0 = .ok (.aload_n 0, 1) := by decide +kernel
theorem dX8_sum_1 : decode cX8_sum 1 = .ok (.invokevirtual 170, 3) := by decide +kernel
theorem dX8_sum_4 : decode cX8_sum 4 = .ok (.istore_n 1, 1) := by decide +kernel
theorem dX8_sum_5 : decode cX8_sum 5 = .ok (.iconst 0, 1) := by decide +kernel
theorem dX8_sum_6 : decode cX8_sum 6 = .ok (.istore_n 2, 1) := by decide +kernel
theorem dX8_sum_7 : decode cX8_sum 7 = .ok (.iload_n 2, 1) := by decide +kernel
theorem dX8_sum_8 : decode cX8_sum 8 = .ok (.sipush 700, 3) := by decide +kernel
theorem dX8_sum_11 : decode cX8_sum 11 = .ok (.if_icmp .ge 68, 3) := by decide +kernel
theorem dX8_sum_14 : decode cX8_sum 14 = .ok (.iload_n 1, 1) := by decide +kernel
theorem dX8_sum_15 : decode cX8_sum 15 = .ok (.sipush (-209), 3) := by decide +kernel
theorem dX8_sum_18 : decode cX8_sum 18 = .ok (.if_icmp .eq 61, 3) := by decide +kernel
theorem dX8_sum_21 : decode cX8_sum 21 = .ok (.aload_n 0, 1) := by decide +kernel
theorem dX8_sum_22 : decode cX8_sum 22 = .ok (.getfield 14, 3) := by decide +kernel
theorem dX8_sum_25 : decode cX8_sum 25 = .ok (.invokevirtual 167, 3) := by decide +kernel
theorem dX8_sum_28 : decode cX8_sum 28 = .ok (.istore_n 3, 1) := by decide +kernel
theorem dX8_sum_29 : decode cX8_sum 29 = .ok (.iload_n 3, 1) := by decide +kernel
theorem dX8_sum_30 : decode cX8_sum 30 = .ok (.bipush 43, 2) := by decide +kernel
theorem dX8_sum_32 : decode cX8_sum 32 = .ok (.if_icmp .eq 11, 3) := by decide +kernel
theorem dX8_sum_35 : decode cX8_sum 35 = .ok (.iload_n 3, 1) := by decide +kernel
theorem dX8_sum_36 : decode cX8_sum 36 = .ok (.bipush 45, 2) := by decide +kernel
theorem dX8_sum_38 : decode cX8_sum 38 = .ok (.if_icmp .eq 5, 3) := by decide +kernel
theorem dX8_sum_41 : decode cX8_sum 41 = .ok (.iload_n 1, 1) := by decide +kernel
theorem dX8_sum_42 : decode cX8_sum 42 = .ok (.ireturn, 1) := by decide +kernel
theorem dX8_sum_43 : decode cX8_sum 43 = .ok (.aload_n 0, 1) := by decide +kernel
theorem dX8_sum_44 : decode cX8_sum 44 = .ok (.getfield 14, 3) := by decide +kernel
theorem dX8_sum_47 : decode cX8_sum 47 = .ok (.getfield 102, 3) := by decide +kernel
theorem dX8_sum_50 : decode cX8_sum 50 = .ok (.istore 4, 2) := by decide +kernel
theorem dX8_sum_52 : decode cX8_sum 52 = .ok (.aload_n 0, 1) := by decide +kernel
theorem dX8_sum_53 : decode cX8_sum 53 = .ok (.getfield 14, 3) := by decide +kernel
theorem dX8_sum_56 : decode cX8_sum 56 = .ok (.iconst 1, 1) := by decide +kernel
theorem dX8_sum_57 : decode cX8_sum 57 = .ok (.invokevirtual 103, 3) := by decide +kernel
theorem dX8_sum_60 : decode cX8_sum 60 = .ok (.aload_n 0, 1) := by decide +kernel
theorem dX8_sum_61 : decode cX8_sum 61 = .ok (.iload_n 3, 1) := by decide +kernel
theorem dX8_sum_62 : decode cX8_sum 62 = .ok (.iload_n 1, 1) := by decide +kernel
theorem dX8_sum_63 : decode cX8_sum 63 = .ok (.aload_n 0, 1) := by decide +kernel
theorem dX8_sum_64 : decode cX8_sum 64 = .ok (.invokevirtual 170, 3) := by decide +kernel
theorem dX8_sum_67 : decode cX8_sum 67 = .ok (.iload 4, 2) := by decide +kernel
theorem dX8_sum_69 : decode cX8_sum 69 = .ok (.invokevirtual 121, 3) := by decide +kernel
theorem dX8_sum_72 : decode cX8_sum 72 = .ok (.istore_n 1, 1) := by decide +kernel
theorem dX8_sum_73 : decode cX8_sum 73 = .ok (.iinc 2 1, 3) := by decide +kernel
theorem dX8_sum_76 : decode cX8_sum 76 = .ok (.goto (-69), 3) := by decide +kernel
theorem dX8_sum_79 : decode cX8_sum 79 = .ok (.iload_n 1, 1) := by decide +kernel
theorem dX8_sum_80 : decode cX8_sum 80 = .ok (.ireturn, 1) := by decide +kernel
theorem dX8_term_0 : decode cX8_term 0 = .ok (.aload_n 0, 1) := by decide +kernel
theorem dX8_term_1 : decode cX8_term 1 = .ok (.invokevirtual 173, 3) := by decide +kernel
theorem dX8_term_4 : decode cX8_term 4 = .ok (.istore_n 1, 1) := by decide +kernel
theorem dX8_term_5 : decode cX8_term 5 = .ok (.iconst 0, 1) := by decide +kernel
theorem dX8_term_6 : decode cX8_term 6 = .ok (.istore_n 2, 1) := by decide +kernel
theorem dX8_term_7 : decode cX8_term 7 = .ok (.iload_n 2, 1) := by decide +kernel
theorem dX8_term_8 : decode cX8_term 8 = .ok (.sipush 700, 3) := by decide +kernel
theorem dX8_term_11 : decode cX8_term 11 = .ok (.if_icmp .ge 59, 3) := by decide +kernel
theorem dX8_term_14 : decode cX8_term 14 = .ok (.iload_n 1, 1) := by decide +kernel
theorem dX8_term_15 : decode cX8_term 15 = .ok (.sipush (-209), 3) := by decide +kernel
theorem dX8_term_18 : decode cX8_term 18 = .ok (.if_icmp .eq 52, 3) := by decide +kernel
theorem dX8_term_21 : decode cX8_term 21 = .ok (.aload_n 0, 1) := by decide +kernel
theorem dX8_term_22 : decode cX8_term 22 = .ok (.getfield 14, 3) := by decide +kernel
theorem dX8_term_25 : decode cX8_term 25 = .ok (.invokevirtual 167, 3) := by decide +kernel
theorem dX8_term_28 : decode cX8_term 28 = .ok (.bipush 42, 2) := by decide +kernel
theorem dX8_term_30 : decode cX8_term 30 = .ok (.if_icmp .eq 5, 3) := by decide +kernel
theorem dX8_term_33 : decode cX8_term 33 = .ok (.iload_n 1, 1) := by decide +kernel
theorem dX8_term_34 : decode cX8_term 34 = .ok (.ireturn, 1) := by decide +kernel
theorem dX8_term_35 : decode cX8_term 35 = .ok (.aload_n 0, 1) := by decide +kernel
theorem dX8_term_36 : decode cX8_term 36 = .ok (.getfield 14, 3) := by decide +kernel
theorem dX8_term_39 : decode cX8_term 39 = .ok (.getfield 102, 3) := by decide +kernel
theorem dX8_term_42 : decode cX8_term 42 = .ok (.istore_n 3, 1) := by decide +kernel
theorem dX8_term_43 : decode cX8_term 43 = .ok (.aload_n 0, 1) := by decide +kernel
theorem dX8_term_44 : decode cX8_term 44 = .ok (.getfield 14, 3) := by decide +kernel
theorem dX8_term_47 : decode cX8_term 47 = .ok (.iconst 1, 1) := by decide +kernel
theorem dX8_term_48 : decode cX8_term 48 = .ok (.invokevirtual 103, 3) := by decide +kernel
theorem dX8_term_51 : decode cX8_term 51 = .ok (.aload_n 0, 1) := by decide +kernel
theorem dX8_term_52 : decode cX8_term 52 = .ok (.bipush 42, 2) := by decide +kernel
theorem dX8_term_54 : decode cX8_term 54 = .ok (.iload_n 1, 1) := by decide +kernel
theorem dX8_term_55 : decode cX8_term 55 = .ok (.aload_n 0, 1) := by decide +kernel
theorem dX8_term_56 : decode cX8_term 56 = .ok (.invokevirtual 173, 3) := by decide +kernel
theorem dX8_term_59 : decode cX8_term 59 = .ok (.iload_n 3, 1) := by decide +kernel
theorem dX8_term_60 : decode cX8_term 60 = .ok (.invokevirtual 121, 3) := by decide +kernel
theorem dX8_term_63 : decode cX8_term 63 = .ok (.istore_n 1, 1) := by decide +kernel
theorem dX8_term_64 : decode cX8_term 64 = .ok (.iinc 2 1, 3) := by decide +kernel
theorem dX8_term_67 : decode cX8_term 67 = .ok (.goto (-60), 3) := by decide +kernel
theorem dX8_term_70 : decode cX8_term 70 = .ok (.iload_n 1, 1) := by decide +kernel
theorem dX8_term_71 : decode cX8_term 71 = .ok (.ireturn, 1) := by decide +kernel
theorem dX8_factor_0 : decode cX8_factor 0 = .ok (.aload_n 0, 1) := by decide +kernel
theorem dX8_factor_1 : decode cX8_factor 1 = .ok (.getfield 14, 3) := by decide +kernel
theorem dX8_factor_4 : decode cX8_factor 4 = .ok (.invokevirtual 167, 3) := by decide +kernel
theorem dX8_factor_7 : decode cX8_factor 7 = .ok (.bipush 40, 2) := by decide +kernel
theorem dX8_factor_9 : decode cX8_factor 9 = .ok (.if_icmp .ne 12, 3) := by decide +kernel
theorem dX8_factor_12 : decode cX8_factor 12 = .ok (.aload_n 0, 1) := by decide +kernel
theorem dX8_factor_13 : decode cX8_factor 13 = .ok (.bipush 40, 2) := by decide +kernel
theorem dX8_factor_15 : decode cX8_factor 15 = .ok (.bipush 41, 2) := by decide +kernel
theorem dX8_factor_17 : decode cX8_factor 17 = .ok (.invokevirtual 138, 3) := by decide +kernel
theorem dX8_factor_20 : decode cX8_factor 20 = .ok (.ireturn, 1) := by decide +kernel
theorem dX8_factor_21 : decode cX8_factor 21 = .ok (.aload_n 0, 1) := by decide +kernel
theorem dX8_factor_22 : decode cX8_factor 22 = .ok (.getfield 14, 3) := by decide +kernel
theorem dX8_factor_25 : decode cX8_factor 25 = .ok (.invokevirtual 176, 3) := by decide +kernel
theorem dX8_factor_28 : decode cX8_factor 28 = .ok (.ifCond .eq 8, 3) := by decide +kernel
theorem dX8_factor_31 : decode cX8_factor 31 = .ok (.aload_n 0, 1) := by decide +kernel
theorem dX8_factor_32 : decode cX8_factor 32 = .ok (.invokevirtual 179, 3) := by decide +kernel
theorem dX8_factor_35 : decode cX8_factor 35 = .ok (.ireturn, 1) := by decide +kernel
theorem dX8_factor_36 : decode cX8_factor 36 = .ok (.aload_n 0, 1) := by decide +kernel
theorem dX8_factor_37 : decode cX8_factor 37 = .ok (.getfield 14, 3) := by decide +kernel
theorem dX8_factor_40 : decode cX8_factor 40 = .ok (.ldc 87, 2) := by decide +kernel
theorem dX8_factor_42 : decode cX8_factor 42 = .ok (.invokevirtual 75, 3) := by decide +kernel
theorem dX8_factor_45 : decode cX8_factor 45 = .ok (.ifCond .eq 8, 3) := by decide +kernel
theorem dX8_factor_48 : decode cX8_factor 48 = .ok (.aload_n 0, 1) := by decide +kernel
theorem dX8_factor_49 : decode cX8_factor 49 = .ok (.invokevirtual 182, 3) := by decide +kernel
theorem dX8_factor_52 : decode cX8_factor 52 = .ok (.ireturn, 1) := by decide +kernel
theorem dX8_factor_53 : decode cX8_factor 53 = .ok (.aload_n 0, 1) := by decide +kernel
theorem dX8_factor_54 : decode cX8_factor 54 = .ok (.getfield 14, 3) := by decide +kernel
theorem dX8_factor_57 : decode cX8_factor 57 = .ok (.invokevirtual 92, 3) := by decide +kernel
theorem dX8_factor_60 : decode cX8_factor 60 = .ok (.istore_n 1, 1) := by decide +kernel
theorem dX8_factor_61 : decode cX8_factor 61 = .ok (.iload_n 1, 1) := by decide +kernel
theorem dX8_factor_62 : decode cX8_factor 62 = .ok (.iconst (-1), 1) := by decide +kernel
theorem dX8_factor_63 : decode cX8_factor 63 = .ok (.if_icmp .ne 13, 3) := by decide +kernel
theorem dX8_factor_66 : decode cX8_factor 66 = .ok (.aload_n 0, 1) := by decide +kernel
theorem dX8_factor_67 : decode cX8_factor 67 = .ok (.iconst 1, 1) := by decide +kernel
theorem dX8_factor_68 : decode cX8_factor 68 = .ok (.invokevirtual 96, 3) := by decide +kernel
theorem dX8_factor_71 : decode cX8_factor 71 = .ok (.pop, 1) := by decide +kernel
theorem dX8_factor_72 : decode cX8_factor 72 = .ok (.sipush (-209), 3) := by decide +kernel
theorem dX8_factor_75 : decode cX8_factor 75 = .ok (.ireturn, 1) := by decide +kernel
theorem dX8_factor_76 : decode cX8_factor 76 = .ok (.aload_n 0, 1) := by decide +kernel
theorem dX8_factor_77 : decode cX8_factor 77 = .ok (.getfield 14, 3) := by decide +kernel
theorem dX8_factor_80 : decode cX8_factor 80 = .ok (.iconst 1, 1) := by decide +kernel
theorem dX8_factor_81 : decode cX8_factor 81 = .ok (.invokevirtual 103, 3) := by decide +kernel
theorem dX8_factor_84 : decode cX8_factor 84 = .ok (.iload_n 1, 1) := by decide +kernel
theorem dX8_factor_85 : decode cX8_factor 85 = .ok (.invokestatic 185, 3) := by decide +kernel
theorem dX8_factor_88 : decode cX8_factor 88 = .ok (.ireturn, 1) := by decide +kernel
theorem dX8_number_0 : decode cX8_number 0 = .ok (.aload_n 0, 1) := by decide +kernel
theorem dX8_number_1 : decode cX8_number 1 = .ok (.getfield 14, 3) := by decide +kernel
theorem dX8_number_4 : decode cX8_number 4 = .ok (.getfield 102, 3) := by decide +kernel
theorem dX8_number_7 : decode cX8_number 7 = .ok (.istore_n 1, 1) := by decide +kernel
theorem dX8_number_8 : decode cX8_number 8 = .ok (.aload_n 0, 1) := by decide +kernel
theorem dX8_number_9 : decode cX8_number 9 = .ok (.getfield 14, 3) := by decide +kernel
theorem dX8_number_12 : decode cX8_number 12 = .ok (.invokevirtual 188, 3) := by decide +kernel
theorem dX8_number_15 : decode cX8_number 15 = .ok (.lstore_n 2, 1) := by decide +kernel
theorem dX8_number_16 : decode cX8_number 16 = .ok (.lload_n 2, 1) := by decide +kernel
theorem dX8_number_17 : decode cX8_number 17 = .ok (.ldc2_w 192, 3) := by decide +kernel
theorem dX8_number_20 : decode cX8_number 20 = .ok (.lcmp, 1) := by decide +kernel
theorem dX8_number_21 : decode cX8_number 21 = .ok (.ifCond .le 14, 3) := by decide +kernel
theorem dX8_number_24 : decode cX8_number 24 = .ok (.aload_n 0, 1) := by decide +kernel
theorem dX8_number_25 : decode cX8_number 25 = .ok (.iconst 2, 1) := by decide +kernel
theorem dX8_number_26 : decode cX8_number 26 = .ok (.iload_n 1, 1) := by decide +kernel
theorem dX8_number_27 : decode cX8_number 27 = .ok (.invokevirtual 194, 3) := by decide +kernel
theorem dX8_number_30 : decode cX8_number 30 = .ok (.pop, 1) := by decide +kernel
theorem dX8_number_31 : decode cX8_number 31 = .ok (.sipush (-209), 3) := by decide +kernel
theorem dX8_number_34 : decode cX8_number 34 = .ok (.ireturn, 1) := by decide +kernel
theorem dX8_number_35 : decode cX8_number 35 = .ok (.lload_n 2, 1) := by decide +kernel
theorem dX8_number_36 : decode cX8_number 36 = .ok (.l2i, 1) := by decide +kernel
theorem dX8_number_37 : decode cX8_number 37 = .ok (.ireturn, 1) := by decide +kernel
theorem dX8_read_0 : decode cX8_read 0 = .ok (.aload_n 0, 1) := by decide +kernel
theorem dX8_read_1 : decode cX8_read 1 = .ok (.getfield 14, 3) := by decide +kernel
theorem dX8_read_4 : decode cX8_read 4 = .ok (.getfield 102, 3) := by decide +kernel
theorem dX8_read_7 : decode cX8_read 7 = .ok (.istore_n 1, 1) := by decide +kernel
theorem dX8_read_8 : decode cX8_read 8 = .ok (.aload_n 0, 1) := by decide +kernel
theorem dX8_read_9 : decode cX8_read 9 = .ok (.getfield 14, 3) := by decide +kernel
theorem dX8_read_12 : decode cX8_read 12 = .ok (.iconst 1, 1) := by decide +kernel
theorem dX8_read_13 : decode cX8_read 13 = .ok (.invokevirtual 103, 3) := by decide +kernel
theorem dX8_read_16 : decode cX8_read 16 = .ok (.aload_n 0, 1) := by decide +kernel
theorem dX8_read_17 : decode cX8_read 17 = .ok (.bipush 91, 2) := by decide +kernel
theorem dX8_read_19 : decode cX8_read 19 = .ok (.bipush 93, 2) := by decide +kernel
theorem dX8_read_21 : decode cX8_read 21 = .ok (.invokevirtual 138, 3) := by decide +kernel
theorem dX8_read_24 : decode cX8_read 24 = .ok (.istore_n 2, 1) := by decide +kernel
theorem dX8_read_25 : decode cX8_read 25 = .ok (.iload_n 2, 1) := by decide +kernel
theorem dX8_read_26 : decode cX8_read 26 = .ok (.sipush (-209), 3) := by decide +kernel
theorem dX8_read_29 : decode cX8_read 29 = .ok (.if_icmp .ne 7, 3) := by decide +kernel
theorem dX8_read_32 : decode cX8_read 32 = .ok (.iload_n 2, 1) := by decide +kernel
theorem dX8_read_33 : decode cX8_read 33 = .ok (.goto 11, 3) := by decide +kernel
theorem dX8_read_36 : decode cX8_read 36 = .ok (.aload_n 0, 1) := by decide +kernel
theorem dX8_read_37 : decode cX8_read 37 = .ok (.iconst 1, 1) := by decide +kernel
theorem dX8_read_38 : decode cX8_read 38 = .ok (.iload_n 2, 1) := by decide +kernel
theorem dX8_read_39 : decode cX8_read 39 = .ok (.iconst 0, 1) := by decide +kernel
theorem dX8_read_40 : decode cX8_read 40 = .ok (.iload_n 1, 1) := by decide +kernel
theorem dX8_read_41 : decode cX8_read 41 = .ok (.invokevirtual 121, 3) := by decide +kernel
theorem dX8_read_44 : decode cX8_read 44 = .ok (.ireturn, 1) := by decide +kernel
theorem dX8_enclosed_0 : decode cX8_enclosed 0 = .ok (.aload_n 0, 1) := by decide +kernel
theorem dX8_enclosed_1 : decode cX8_enclosed 1 = .ok (.iload_n 1, 1) := by decide +kernel
theorem dX8_enclosed_2 : decode cX8_enclosed 2 = .ok (.invokevirtual 60, 3) := by decide +kernel
theorem dX8_enclosed_5 : decode cX8_enclosed 5 = .ok (.ifCond .ne 7, 3) := by decide +kernel
theorem dX8_enclosed_8 : decode cX8_enclosed 8 = .ok (.sipush (-209), 3) := by decide +kernel
theorem dX8_enclosed_11 : decode cX8_enclosed 11 = .ok (.ireturn, 1) := by decide +kernel
theorem dX8_enclosed_12 : decode cX8_enclosed 12 = .ok (.aload_n 0, 1) := by decide +kernel
theorem dX8_enclosed_13 : decode cX8_enclosed 13 = .ok (.getfield 50, 3) := by decide +kernel
theorem dX8_enclosed_16 : decode cX8_enclosed 16 = .ok (.bipush 20, 2) := by decide +kernel
theorem dX8_enclosed_18 : decode cX8_enclosed 18 = .ok (.if_icmp .ne 13, 3) := by decide +kernel
theorem dX8_enclosed_21 : decode cX8_enclosed 21 = .ok (.aload_n 0, 1) := by decide +kernel
theorem dX8_enclosed_22 : decode cX8_enclosed 22 = .ok (.iconst 3, 1) := by decide +kernel
theorem dX8_enclosed_23 : decode cX8_enclosed 23 = .ok (.invokevirtual 96, 3) := by decide +kernel
theorem dX8_enclosed_26 : decode cX8_enclosed 26 = .ok (.pop, 1) := by decide +kernel
theorem dX8_enclosed_27 : decode cX8_enclosed 27 = .ok (.sipush (-209), 3) := by decide +kernel
theorem dX8_enclosed_30 : decode cX8_enclosed 30 = .ok (.ireturn, 1) := by decide +kernel
theorem dX8_enclosed_31 : decode cX8_enclosed 31 = .ok (.aload_n 0, 1) := by decide +kernel
theorem dX8_enclosed_32 : decode cX8_enclosed 32 = .ok (.dup, 1) := by decide +kernel
theorem dX8_enclosed_33 : decode cX8_enclosed 33 = .ok (.getfield 50, 3) := by decide +kernel
theorem dX8_enclosed_36 : decode cX8_enclosed 36 = .ok (.iconst 1, 1) := by decide +kernel
theorem dX8_enclosed_37 : decode cX8_enclosed 37 = .ok (.iadd, 1) := by decide +kernel
theorem dX8_enclosed_38 : decode cX8_enclosed 38 = .ok (.putfield 50, 3) := by decide +kernel
theorem dX8_enclosed_41 : decode cX8_enclosed 41 = .ok (.aload_n 0, 1) := by decide +kernel
theorem dX8_enclosed_42 : decode cX8_enclosed 42 = .ok (.getfield 14, 3) := by decide +kernel
theorem dX8_enclosed_45 : decode cX8_enclosed 45 = .ok (.iconst 1, 1) := by decide +kernel
theorem dX8_enclosed_46 : decode cX8_enclosed 46 = .ok (.invokevirtual 103, 3) := by decide +kernel
theorem dX8_enclosed_49 : decode cX8_enclosed 49 = .ok (.aload_n 0, 1) := by decide +kernel
theorem dX8_enclosed_50 : decode cX8_enclosed 50 = .ok (.invokevirtual 113, 3) := by decide +kernel
theorem dX8_enclosed_53 : decode cX8_enclosed 53 = .ok (.istore_n 3, 1) := by decide +kernel
theorem dX8_enclosed_54 : decode cX8_enclosed 54 = .ok (.iload_n 3, 1) := by decide +kernel
theorem dX8_enclosed_55 : decode cX8_enclosed 55 = .ok (.sipush (-209), 3) := by decide +kernel
theorem dX8_enclosed_58 : decode cX8_enclosed 58 = .ok (.if_icmp .eq 11, 3) := by decide +kernel
theorem dX8_enclosed_61 : decode cX8_enclosed 61 = .ok (.aload_n 0, 1) := by decide +kernel
theorem dX8_enclosed_62 : decode cX8_enclosed 62 = .ok (.iload_n 2, 1) := by decide +kernel
theorem dX8_enclosed_63 : decode cX8_enclosed 63 = .ok (.invokevirtual 110, 3) := by decide +kernel
theorem dX8_enclosed_66 : decode cX8_enclosed 66 = .ok (.ifCond .ne 7, 3) := by decide +kernel
theorem dX8_enclosed_69 : decode cX8_enclosed 69 = .ok (.sipush (-209), 3) := by decide +kernel
theorem dX8_enclosed_72 : decode cX8_enclosed 72 = .ok (.ireturn, 1) := by decide +kernel
theorem dX8_enclosed_73 : decode cX8_enclosed 73 = .ok (.aload_n 0, 1) := by decide +kernel
theorem dX8_enclosed_74 : decode cX8_enclosed 74 = .ok (.dup, 1) := by decide +kernel
theorem dX8_enclosed_75 : decode cX8_enclosed 75 = .ok (.getfield 50, 3) := by decide +kernel
theorem dX8_enclosed_78 : decode cX8_enclosed 78 = .ok (.iconst 1, 1) := by decide +kernel
theorem dX8_enclosed_79 : decode cX8_enclosed 79 = .ok (.isub, 1) := by decide +kernel
theorem dX8_enclosed_80 : decode cX8_enclosed 80 = .ok (.putfield 50, 3) := by decide +kernel
theorem dX8_enclosed_83 : decode cX8_enclosed 83 = .ok (.iload_n 3, 1) := by decide +kernel
theorem dX8_enclosed_84 : decode cX8_enclosed 84 = .ok (.ireturn, 1) := by decide +kernel
theorem dX8_add_0 : decode cX8_add 0 = .ok (.iload_n 3, 1) := by decide +kernel
theorem dX8_add_1 : decode cX8_add 1 = .ok (.sipush (-209), 3) := by decide +kernel
theorem dX8_add_4 : decode cX8_add 4 = .ok (.if_icmp .ne 5, 3) := by decide +kernel
theorem dX8_add_7 : decode cX8_add 7 = .ok (.iload_n 3, 1) := by decide +kernel
theorem dX8_add_8 : decode cX8_add 8 = .ok (.ireturn, 1) := by decide +kernel
theorem dX8_add_9 : decode cX8_add 9 = .ok (.aload_n 0, 1) := by decide +kernel
theorem dX8_add_10 : decode cX8_add 10 = .ok (.getfield 31, 3) := by decide +kernel
theorem dX8_add_13 : decode cX8_add 13 = .ok (.invokevirtual 197, 3) := by decide +kernel
theorem dX8_add_16 : decode cX8_add 16 = .ok (.ifCond .eq 15, 3) := by decide +kernel
theorem dX8_add_19 : decode cX8_add 19 = .ok (.aload_n 0, 1) := by decide +kernel
theorem dX8_add_20 : decode cX8_add 20 = .ok (.iconst 3, 1) := by decide +kernel
theorem dX8_add_21 : decode cX8_add 21 = .ok (.iload 4, 2) := by decide +kernel
theorem dX8_add_23 : decode cX8_add 23 = .ok (.invokevirtual 194, 3) := by decide +kernel
theorem dX8_add_26 : decode cX8_add 26 = .ok (.pop, 1) := by decide +kernel
theorem dX8_add_27 : decode cX8_add 27 = .ok (.sipush (-209), 3) := by decide +kernel
theorem dX8_add_30 : decode cX8_add 30 = .ok (.ireturn, 1) := by decide +kernel
theorem dX8_add_31 : decode cX8_add 31 = .ok (.aload_n 0, 1) := by decide +kernel
theorem dX8_add_32 : decode cX8_add 32 = .ok (.getfield 31, 3) := by decide +kernel
theorem dX8_add_35 : decode cX8_add 35 = .ok (.iload_n 1, 1) := by decide +kernel
theorem dX8_add_36 : decode cX8_add 36 = .ok (.iload_n 2, 1) := by decide +kernel
theorem dX8_add_37 : decode cX8_add 37 = .ok (.iload_n 3, 1) := by decide +kernel
theorem dX8_add_38 : decode cX8_add 38 = .ok (.invokevirtual 200, 3) := by decide +kernel
theorem dX8_add_41 : decode cX8_add 41 = .ok (.getfield 204, 3) := by decide +kernel
theorem dX8_add_44 : decode cX8_add 44 = .ok (.invokestatic 206, 3) := by decide +kernel
theorem dX8_add_47 : decode cX8_add 47 = .ok (.ireturn, 1) := by decide +kernel
theorem dX8_meets_0 : decode cX8_meets 0 = .ok (.aload_n 0, 1) := by decide +kernel
theorem dX8_meets_1 : decode cX8_meets 1 = .ok (.getfield 14, 3) := by decide +kernel
theorem dX8_meets_4 : decode cX8_meets 4 = .ok (.invokevirtual 167, 3) := by decide +kernel
theorem dX8_meets_7 : decode cX8_meets 7 = .ok (.iload_n 1, 1) := by decide +kernel
theorem dX8_meets_8 : decode cX8_meets 8 = .ok (.if_icmp .eq 11, 3) := by decide +kernel
theorem dX8_meets_11 : decode cX8_meets 11 = .ok (.aload_n 0, 1) := by decide +kernel
theorem dX8_meets_12 : decode cX8_meets 12 = .ok (.iconst 1, 1) := by decide +kernel
theorem dX8_meets_13 : decode cX8_meets 13 = .ok (.invokevirtual 96, 3) := by decide +kernel
theorem dX8_meets_16 : decode cX8_meets 16 = .ok (.ifCond .eq 7, 3) := by decide +kernel
theorem dX8_meets_19 : decode cX8_meets 19 = .ok (.iconst 1, 1) := by decide +kernel
theorem dX8_meets_20 : decode cX8_meets 20 = .ok (.goto 4, 3) := by decide +kernel
theorem dX8_meets_23 : decode cX8_meets 23 = .ok (.iconst 0, 1) := by decide +kernel
theorem dX8_meets_24 : decode cX8_meets 24 = .ok (.ireturn, 1) := by decide +kernel
theorem dX8_passes_0 : decode cX8_passes 0 = .ok (.aload_n 0, 1) := by decide +kernel
theorem dX8_passes_1 : decode cX8_passes 1 = .ok (.iload_n 1, 1) := by decide +kernel
theorem dX8_passes_2 : decode cX8_passes 2 = .ok (.invokevirtual 60, 3) := by decide +kernel
theorem dX8_passes_5 : decode cX8_passes 5 = .ok (.ifCond .ne 5, 3) := by decide +kernel
theorem dX8_passes_8 : decode cX8_passes 8 = .ok (.iconst 0, 1) := by decide +kernel
theorem dX8_passes_9 : decode cX8_passes 9 = .ok (.ireturn, 1) := by decide +kernel
theorem dX8_passes_10 : decode cX8_passes 10 = .ok (.aload_n 0, 1) := by decide +kernel
theorem dX8_passes_11 : decode cX8_passes 11 = .ok (.getfield 14, 3) := by decide +kernel
theorem dX8_passes_14 : decode cX8_passes 14 = .ok (.iconst 1, 1) := by decide +kernel
theorem dX8_passes_15 : decode cX8_passes 15 = .ok (.invokevirtual 103, 3) := by decide +kernel
theorem dX8_passes_18 : decode cX8_passes 18 = .ok (.iconst 1, 1) := by decide +kernel
theorem dX8_passes_19 : decode cX8_passes 19 = .ok (.ireturn, 1) := by decide +kernel
theorem dX8_refuseHere_0 : decode cX8_refuseHere 0 = .ok (.aload_n 0, 1) := by decide +kernel
theorem dX8_refuseHere_1 : decode cX8_refuseHere 1 = .ok (.iload_n 1, 1) := by decide +kernel
theorem dX8_refuseHere_2 : decode cX8_refuseHere 2 = .ok (.aload_n 0, 1) := by decide +kernel
theorem dX8_refuseHere_3 : decode cX8_refuseHere 3 = .ok (.getfield 14, 3) := by decide +kernel
theorem dX8_refuseHere_6 : decode cX8_refuseHere 6 = .ok (.getfield 102, 3) := by decide +kernel
theorem dX8_refuseHere_9 : decode cX8_refuseHere 9 = .ok (.invokevirtual 194, 3) := by decide +kernel
theorem dX8_refuseHere_12 : decode cX8_refuseHere 12 = .ok (.ireturn, 1) := by decide +kernel
theorem dX8_refuse_0 : decode cX8_refuse 0 = .ok (.aload_n 0, 1) := by decide +kernel
theorem dX8_refuse_1 : decode cX8_refuse 1 = .ok (.iload_n 1, 1) := by decide +kernel
theorem dX8_refuse_2 : decode cX8_refuse 2 = .ok (.putfield 53, 3) := by decide +kernel
theorem dX8_refuse_5 : decode cX8_refuse 5 = .ok (.aload_n 0, 1) := by decide +kernel
theorem dX8_refuse_6 : decode cX8_refuse 6 = .ok (.iload_n 2, 1) := by decide +kernel
theorem dX8_refuse_7 : decode cX8_refuse 7 = .ok (.putfield 27, 3) := by decide +kernel
theorem dX8_refuse_10 : decode cX8_refuse 10 = .ok (.iconst 0, 1) := by decide +kernel
theorem dX8_refuse_11 : decode cX8_refuse 11 = .ok (.ireturn, 1) := by decide +kernel
theorem dX9_init_0 : decode cX9_init 0 = .ok (.aload_n 0, 1) := by decide +kernel
theorem dX9_init_1 : decode cX9_init 1 = .ok (.invokespecial 3, 3) := by decide +kernel
theorem dX9_init_4 : decode cX9_init 4 = .ok (.aload_n 0, 1) := by decide +kernel
theorem dX9_init_5 : decode cX9_init 5 = .ok (.sipush 350, 3) := by decide +kernel
theorem dX9_init_8 : decode cX9_init 8 = .ok (.newarray .int, 2) := by decide +kernel
theorem dX9_init_10 : decode cX9_init 10 = .ok (.putfield 9, 3) := by decide +kernel
theorem dX9_init_13 : decode cX9_init 13 = .ok (.aload_n 0, 1) := by decide +kernel
theorem dX9_init_14 : decode cX9_init 14 = .ok (.sipush 350, 3) := by decide +kernel
theorem dX9_init_17 : decode cX9_init 17 = .ok (.newarray .int, 2) := by decide +kernel
theorem dX9_init_19 : decode cX9_init 19 = .ok (.putfield 15, 3) := by decide +kernel
theorem dX9_init_22 : decode cX9_init 22 = .ok (.return_, 1) := by decide +kernel
theorem dX9_start_0 : decode cX9_start 0 = .ok (.aload_n 0, 1) := by decide +kernel
theorem dX9_start_1 : decode cX9_start 1 = .ok (.aload_n 1, 1) := by decide +kernel
theorem dX9_start_2 : decode cX9_start 2 = .ok (.putfield 18, 3) := by decide +kernel
theorem dX9_start_5 : decode cX9_start 5 = .ok (.aload_n 0, 1) := by decide +kernel
theorem dX9_start_6 : decode cX9_start 6 = .ok (.iconst 0, 1) := by decide +kernel
theorem dX9_start_7 : decode cX9_start 7 = .ok (.putfield 22, 3) := by decide +kernel
theorem dX9_start_10 : decode cX9_start 10 = .ok (.aload_n 0, 1) := by decide +kernel
theorem dX9_start_11 : decode cX9_start 11 = .ok (.aload_n 0, 1) := by decide +kernel
theorem dX9_start_12 : decode cX9_start 12 = .ok (.invokevirtual 26, 3) := by decide +kernel
theorem dX9_start_15 : decode cX9_start 15 = .ok (.invokevirtual 30, 3) := by decide +kernel
theorem dX9_start_18 : decode cX9_start 18 = .ok (.return_, 1) := by decide +kernel
theorem dX9_addJoint_0 : decode cX9_addJoint 0 = .ok (.aload_n 0, 1) := by decide +kernel
theorem dX9_addJoint_1 : decode cX9_addJoint 1 = .ok (.getfield 22, 3) := by decide +kernel
theorem dX9_addJoint_4 : decode cX9_addJoint 4 = .ok (.istore_n 1, 1) := by decide +kernel
theorem dX9_addJoint_5 : decode cX9_addJoint 5 = .ok (.aload_n 0, 1) := by decide +kernel
theorem dX9_addJoint_6 : decode cX9_addJoint 6 = .ok (.getfield 9, 3) := by decide +kernel
theorem dX9_addJoint_9 : decode cX9_addJoint 9 = .ok (.iload_n 1, 1) := by decide +kernel
theorem dX9_addJoint_10 : decode cX9_addJoint 10 = .ok (.iconst (-1), 1) := by decide +kernel
theorem dX9_addJoint_11 : decode cX9_addJoint 11 = .ok (.iastore, 1) := by decide +kernel
theorem dX9_addJoint_12 : decode cX9_addJoint 12 = .ok (.aload_n 0, 1) := by decide +kernel
theorem dX9_addJoint_13 : decode cX9_addJoint 13 = .ok (.getfield 15, 3) := by decide +kernel
theorem dX9_addJoint_16 : decode cX9_addJoint 16 = .ok (.iload_n 1, 1) := by decide +kernel
theorem dX9_addJoint_17 : decode cX9_addJoint 17 = .ok (.iconst (-1), 1) := by decide +kernel
theorem dX9_addJoint_18 : decode cX9_addJoint 18 = .ok (.iastore, 1) := by decide +kernel
theorem dX9_addJoint_19 : decode cX9_addJoint 19 = .ok (.aload_n 0, 1) := by decide +kernel
theorem dX9_addJoint_20 : decode cX9_addJoint 20 = .ok (.dup, 1) := by decide +kernel
theorem dX9_addJoint_21 : decode cX9_addJoint 21 = .ok (.getfield 22, 3) := by decide +kernel
theorem dX9_addJoint_24 : decode cX9_addJoint 24 = .ok (.iconst 1, 1) := by decide +kernel
theorem dX9_addJoint_25 : decode cX9_addJoint 25 = .ok (.iadd, 1) := by decide +kernel
theorem dX9_addJoint_26 : decode cX9_addJoint 26 = .ok (.putfield 22, 3) := by decide +kernel
theorem dX9_addJoint_29 : decode cX9_addJoint 29 = .ok (.iload_n 1, 1) := by decide +kernel
theorem dX9_addJoint_30 : decode cX9_addJoint 30 = .ok (.ireturn, 1) := by decide +kernel
theorem dX9_standAt_0 : decode cX9_standAt 0 = .ok (.aload_n 0, 1) := by decide +kernel
theorem dX9_standAt_1 : decode cX9_standAt 1 = .ok (.iload_n 1, 1) := by decide +kernel
theorem dX9_standAt_2 : decode cX9_standAt 2 = .ok (.putfield 34, 3) := by decide +kernel
theorem dX9_standAt_5 : decode cX9_standAt 5 = .ok (.aload_n 0, 1) := by decide +kernel
theorem dX9_standAt_6 : decode cX9_standAt 6 = .ok (.aconst_null, 1) := by decide +kernel
theorem dX9_standAt_7 : decode cX9_standAt 7 = .ok (.putfield 37, 3) := by decide +kernel
theorem dX9_standAt_10 : decode cX9_standAt 10 = .ok (.return_, 1) := by decide +kernel
theorem dX9_openBlock_0 : decode cX9_openBlock 0 = .ok (.aload_n 0, 1) := by decide +kernel
theorem dX9_openBlock_1 : decode cX9_openBlock 1 = .ok (.getfield 37, 3) := by decide +kernel
theorem dX9_openBlock_4 : decode cX9_openBlock 4 = .ok (.ifnonnull 30, 3) := by decide +kernel
theorem dX9_openBlock_7 : decode cX9_openBlock 7 = .ok (.aload_n 0, 1) := by decide +kernel
theorem dX9_openBlock_8 : decode cX9_openBlock 8 = .ok (.getfield 9, 3) := by decide +kernel
theorem dX9_openBlock_11 : decode cX9_openBlock 11 = .ok (.aload_n 0, 1) := by decide +kernel
theorem dX9_openBlock_12 : decode cX9_openBlock 12 = .ok (.getfield 34, 3) := by decide +kernel
theorem dX9_openBlock_15 : decode cX9_openBlock 15 = .ok (.aload_n 0, 1) := by decide +kernel
theorem dX9_openBlock_16 : decode cX9_openBlock 16 = .ok (.getfield 18, 3) := by decide +kernel
theorem dX9_openBlock_19 : decode cX9_openBlock 19 = .ok (.getfield 41, 3) := by decide +kernel
theorem dX9_openBlock_22 : decode cX9_openBlock 22 = .ok (.iastore, 1) := by decide +kernel
theorem dX9_openBlock_23 : decode cX9_openBlock 23 = .ok (.aload_n 0, 1) := by decide +kernel
theorem dX9_openBlock_24 : decode cX9_openBlock 24 = .ok (.aload_n 0, 1) := by decide +kernel
theorem dX9_openBlock_25 : decode cX9_openBlock 25 = .ok (.getfield 18, 3) := by decide +kernel
theorem dX9_openBlock_28 : decode cX9_openBlock 28 = .ok (.invokevirtual 46, 3) := by decide +kernel
theorem dX9_openBlock_31 : decode cX9_openBlock 31 = .ok (.putfield 37, 3) := by decide +kernel
theorem dX9_openBlock_34 : decode cX9_openBlock 34 = .ok (.return_, 1) := by decide +kernel
theorem dX9_choose_0 : decode cX9_choose 0 = .ok (.aload_n 0, 1) := by decide +kernel
theorem dX9_choose_1 : decode cX9_choose 1 = .ok (.getfield 37, 3) := by decide +kernel
theorem dX9_choose_4 : decode cX9_choose 4 = .ok (.ifnull 35, 3) := by decide +kernel
theorem dX9_choose_7 : decode cX9_choose 7 = .ok (.aload_n 0, 1) := by decide +kernel
theorem dX9_choose_8 : decode cX9_choose 8 = .ok (.getfield 37, 3) := by decide +kernel
theorem dX9_choose_11 : decode cX9_choose 11 = .ok (.iconst 1, 1) := by decide +kernel
theorem dX9_choose_12 : decode cX9_choose 12 = .ok (.putfield 50, 3) := by decide +kernel
theorem dX9_choose_15 : decode cX9_choose 15 = .ok (.aload_n 0, 1) := by decide +kernel
theorem dX9_choose_16 : decode cX9_choose 16 = .ok (.getfield 37, 3) := by decide +kernel
theorem dX9_choose_19 : decode cX9_choose 19 = .ok (.iload_n 1, 1) := by decide +kernel
theorem dX9_choose_20 : decode cX9_choose 20 = .ok (.putfield 56, 3) := by decide +kernel
theorem dX9_choose_23 : decode cX9_choose 23 = .ok (.aload_n 0, 1) := by decide +kernel
theorem dX9_choose_24 : decode cX9_choose 24 = .ok (.getfield 37, 3) := by decide +kernel
theorem dX9_choose_27 : decode cX9_choose 27 = .ok (.iload_n 2, 1) := by decide +kernel
theorem dX9_choose_28 : decode cX9_choose 28 = .ok (.putfield 59, 3) := by decide +kernel
theorem dX9_choose_31 : decode cX9_choose 31 = .ok (.aload_n 0, 1) := by decide +kernel
theorem dX9_choose_32 : decode cX9_choose 32 = .ok (.getfield 37, 3) := by decide +kernel
theorem dX9_choose_35 : decode cX9_choose 35 = .ok (.iload_n 3, 1) := by decide +kernel
theorem dX9_choose_36 : decode cX9_choose 36 = .ok (.putfield 62, 3) := by decide +kernel
theorem dX9_choose_39 : decode cX9_choose 39 = .ok (.return_, 1) := by decide +kernel
theorem dX9_goTo_0 : decode cX9_goTo 0 = .ok (.aload_n 0, 1) := by decide +kernel
theorem dX9_goTo_1 : decode cX9_goTo 1 = .ok (.getfield 37, 3) := by decide +kernel
theorem dX9_goTo_4 : decode cX9_goTo 4 = .ok (.ifnonnull 16, 3) := by decide +kernel
theorem dX9_goTo_7 : decode cX9_goTo 7 = .ok (.aload_n 0, 1) := by decide +kernel
theorem dX9_goTo_8 : decode cX9_goTo 8 = .ok (.getfield 15, 3) := by decide +kernel
theorem dX9_goTo_11 : decode cX9_goTo 11 = .ok (.aload_n 0, 1) := by decide +kernel
theorem dX9_goTo_12 : decode cX9_goTo 12 = .ok (.getfield 34, 3) := by decide +kernel
theorem dX9_goTo_15 : decode cX9_goTo 15 = .ok (.iload_n 1, 1) := by decide +kernel
theorem dX9_goTo_16 : decode cX9_goTo 16 = .ok (.iastore, 1) := by decide +kernel
theorem dX9_goTo_17 : decode cX9_goTo 17 = .ok (.goto 11, 3) := by decide +kernel
theorem dX9_goTo_20 : decode cX9_goTo 20 = .ok (.aload_n 0, 1) := by decide +kernel
theorem dX9_goTo_21 : decode cX9_goTo 21 = .ok (.getfield 37, 3) := by decide +kernel
theorem dX9_goTo_24 : decode cX9_goTo 24 = .ok (.iload_n 1, 1) := by decide +kernel
theorem dX9_goTo_25 : decode cX9_goTo 25 = .ok (.putfield 59, 3) := by decide +kernel
theorem dX9_goTo_28 : decode cX9_goTo 28 = .ok (.return_, 1) := by decide +kernel
theorem dX9_settle_0 : decode cX9_settle 0 = .ok (.iconst 0, 1) := by decide +kernel
theorem dX9_settle_1 : decode cX9_settle 1 = .ok (.istore_n 1, 1) := by decide +kernel
theorem dX9_settle_2 : decode cX9_settle 2 = .ok (.iload_n 1, 1) := by decide +kernel
theorem dX9_settle_3 : decode cX9_settle 3 = .ok (.aload_n 0, 1) := by decide +kernel
theorem dX9_settle_4 : decode cX9_settle 4 = .ok (.getfield 18, 3) := by decide +kernel
theorem dX9_settle_7 : decode cX9_settle 7 = .ok (.getfield 41, 3) := by decide +kernel
theorem dX9_settle_10 : decode cX9_settle 10 = .ok (.if_icmp .ge 43, 3) := by decide +kernel
theorem dX9_settle_13 : decode cX9_settle 13 = .ok (.aload_n 0, 1) := by decide +kernel
theorem dX9_settle_14 : decode cX9_settle 14 = .ok (.getfield 18, 3) := by decide +kernel
theorem dX9_settle_17 : decode cX9_settle 17 = .ok (.getfield 65, 3) := by decide +kernel
theorem dX9_settle_20 : decode cX9_settle 20 = .ok (.iload_n 1, 1) := by decide +kernel
theorem dX9_settle_21 : decode cX9_settle 21 = .ok (.aaload, 1) := by decide +kernel
theorem dX9_settle_22 : decode cX9_settle 22 = .ok (.astore_n 2, 1) := by decide +kernel
theorem dX9_settle_23 : decode cX9_settle 23 = .ok (.aload_n 2, 1) := by decide +kernel
theorem dX9_settle_24 : decode cX9_settle 24 = .ok (.aload_n 0, 1) := by decide +kernel
theorem dX9_settle_25 : decode cX9_settle 25 = .ok (.aload_n 2, 1) := by decide +kernel
theorem dX9_settle_26 : decode cX9_settle 26 = .ok (.getfield 59, 3) := by decide +kernel
theorem dX9_settle_29 : decode cX9_settle 29 = .ok (.invokevirtual 69, 3) := by decide +kernel
theorem dX9_settle_32 : decode cX9_settle 32 = .ok (.putfield 59, 3) := by decide +kernel
theorem dX9_settle_35 : decode cX9_settle 35 = .ok (.aload_n 2, 1) := by decide +kernel
theorem dX9_settle_36 : decode cX9_settle 36 = .ok (.aload_n 0, 1) := by decide +kernel
theorem dX9_settle_37 : decode cX9_settle 37 = .ok (.aload_n 2, 1) := by decide +kernel
theorem dX9_settle_38 : decode cX9_settle 38 = .ok (.getfield 62, 3) := by decide +kernel
theorem dX9_settle_41 : decode cX9_settle 41 = .ok (.invokevirtual 69, 3) := by decide +kernel
theorem dX9_settle_44 : decode cX9_settle 44 = .ok (.putfield 62, 3) := by decide +kernel
theorem dX9_settle_47 : decode cX9_settle 47 = .ok (.iinc 1 1, 3) := by decide +kernel
theorem dX9_settle_50 : decode cX9_settle 50 = .ok (.goto (-48), 3) := by decide +kernel
theorem dX9_settle_53 : decode cX9_settle 53 = .ok (.return_, 1) := by decide +kernel
theorem dX9_blockFrom_0 : decode cX9_blockFrom 0 = .ok (.iload_n 1, 1) := by decide +kernel
theorem dX9_blockFrom_1 : decode cX9_blockFrom 1 = .ok (.istore_n 2, 1) := by decide +kernel
theorem dX9_blockFrom_2 : decode cX9_blockFrom 2 = .ok (.iconst 0, 1) := by decide +kernel
theorem dX9_blockFrom_3 : decode cX9_blockFrom 3 = .ok (.istore_n 3, 1) := by decide +kernel
theorem dX9_blockFrom_4 : decode cX9_blockFrom 4 = .ok (.iload_n 3, 1) := by decide +kernel
theorem dX9_blockFrom_5 : decode cX9_blockFrom 5 = .ok (.aload_n 0, 1) := by decide +kernel
theorem dX9_blockFrom_6 : decode cX9_blockFrom 6 = .ok (.getfield 22, 3) := by decide +kernel
theorem dX9_blockFrom_9 : decode cX9_blockFrom 9 = .ok (.if_icmp .ge 38, 3) := by decide +kernel
theorem dX9_blockFrom_12 : decode cX9_blockFrom 12 = .ok (.iload_n 2, 1) := by decide +kernel
theorem dX9_blockFrom_13 : decode cX9_blockFrom 13 = .ok (.iconst (-1), 1) := by decide +kernel
theorem dX9_blockFrom_14 : decode cX9_blockFrom 14 = .ok (.if_icmp .eq 33, 3) := by decide +kernel
theorem dX9_blockFrom_17 : decode cX9_blockFrom 17 = .ok (.aload_n 0, 1) := by decide +kernel
theorem dX9_blockFrom_18 : decode cX9_blockFrom 18 = .ok (.getfield 9, 3) := by decide +kernel
theorem dX9_blockFrom_21 : decode cX9_blockFrom 21 = .ok (.iload_n 2, 1) := by decide +kernel
theorem dX9_blockFrom_22 : decode cX9_blockFrom 22 = .ok (.iaload, 1) := by decide +kernel
theorem dX9_blockFrom_23 : decode cX9_blockFrom 23 = .ok (.iconst (-1), 1) := by decide +kernel
theorem dX9_blockFrom_24 : decode cX9_blockFrom 24 = .ok (.if_icmp .eq 10, 3) := by decide +kernel
theorem dX9_blockFrom_27 : decode cX9_blockFrom 27 = .ok (.aload_n 0, 1) := by decide +kernel
theorem dX9_blockFrom_28 : decode cX9_blockFrom 28 = .ok (.getfield 9, 3) := by decide +kernel
theorem dX9_blockFrom_31 : decode cX9_blockFrom 31 = .ok (.iload_n 2, 1) := by decide +kernel
theorem dX9_blockFrom_32 : decode cX9_blockFrom 32 = .ok (.iaload, 1) := by decide +kernel
theorem dX9_blockFrom_33 : decode cX9_blockFrom 33 = .ok (.ireturn, 1) := by decide +kernel
theorem dX9_blockFrom_34 : decode cX9_blockFrom 34 = .ok (.aload_n 0, 1) := by decide +kernel
theorem dX9_blockFrom_35 : decode cX9_blockFrom 35 = .ok (.getfield 15, 3) := by decide +kernel
theorem dX9_blockFrom_38 : decode cX9_blockFrom 38 = .ok (.iload_n 2, 1) := by decide +kernel
theorem dX9_blockFrom_39 : decode cX9_blockFrom 39 = .ok (.iaload, 1) := by decide +kernel
theorem dX9_blockFrom_40 : decode cX9_blockFrom 40 = .ok (.istore_n 2, 1) := by decide +kernel
theorem dX9_blockFrom_41 : decode cX9_blockFrom 41 = .ok (.iinc 3 1, 3) := by decide +kernel
theorem dX9_blockFrom_44 : decode cX9_blockFrom 44 = .ok (.goto (-40), 3) := by decide +kernel
theorem dX9_blockFrom_47 : decode cX9_blockFrom 47 = .ok (.iconst (-1), 1) := by decide +kernel
theorem dX9_blockFrom_48 : decode cX9_blockFrom 48 = .ok (.ireturn, 1) := by decide +kernel
theorem dX10_init_0 : decode cX10_init 0 = .ok (.aload_n 0, 1) := by decide +kernel
theorem dX10_init_1 : decode cX10_init 1 = .ok (.invokespecial 3, 3) := by decide +kernel
theorem dX10_init_4 : decode cX10_init 4 = .ok (.aload_n 0, 1) := by decide +kernel
theorem dX10_init_5 : decode cX10_init 5 = .ok (.new 9, 3) := by decide +kernel
theorem dX10_init_8 : decode cX10_init 8 = .ok (.dup, 1) := by decide +kernel
theorem dX10_init_9 : decode cX10_init 9 = .ok (.invokespecial 11, 3) := by decide +kernel
theorem dX10_init_12 : decode cX10_init 12 = .ok (.putfield 12, 3) := by decide +kernel
theorem dX10_init_15 : decode cX10_init 15 = .ok (.aload_n 0, 1) := by decide +kernel
theorem dX10_init_16 : decode cX10_init 16 = .ok (.new 16, 3) := by decide +kernel
theorem dX10_init_19 : decode cX10_init 19 = .ok (.dup, 1) := by decide +kernel
theorem dX10_init_20 : decode cX10_init 20 = .ok (.aload_n 0, 1) := by decide +kernel
theorem dX10_init_21 : decode cX10_init 21 = .ok (.getfield 12, 3) := by decide +kernel
theorem dX10_init_24 : decode cX10_init 24 = .ok (.invokespecial 18, 3) := by decide +kernel
theorem dX10_init_27 : decode cX10_init 27 = .ok (.putfield 21, 3) := by decide +kernel
theorem dX10_init_30 : decode cX10_init 30 = .ok (.aload_n 0, 1) := by decide +kernel
theorem dX10_init_31 : decode cX10_init 31 = .ok (.new 25, 3) := by decide +kernel
theorem dX10_init_34 : decode cX10_init 34 = .ok (.dup, 1) := by decide +kernel
theorem dX10_init_35 : decode cX10_init 35 = .ok (.invokespecial 27, 3) := by decide +kernel
theorem dX10_init_38 : decode cX10_init 38 = .ok (.putfield 28, 3) := by decide +kernel
theorem dX10_init_41 : decode cX10_init 41 = .ok (.aload_n 0, 1) := by decide +kernel
theorem dX10_init_42 : decode cX10_init 42 = .ok (.new 32, 3) := by decide +kernel
theorem dX10_init_45 : decode cX10_init 45 = .ok (.dup, 1) := by decide +kernel
theorem dX10_init_46 : decode cX10_init 46 = .ok (.invokespecial 34, 3) := by decide +kernel
theorem dX10_init_49 : decode cX10_init 49 = .ok (.putfield 35, 3) := by decide +kernel
theorem dX10_init_52 : decode cX10_init 52 = .ok (.aload_n 0, 1) := by decide +kernel
theorem dX10_init_53 : decode cX10_init 53 = .ok (.new 39, 3) := by decide +kernel
theorem dX10_init_56 : decode cX10_init 56 = .ok (.dup, 1) := by decide +kernel
theorem dX10_init_57 : decode cX10_init 57 = .ok (.invokespecial 41, 3) := by decide +kernel
theorem dX10_init_60 : decode cX10_init 60 = .ok (.putfield 42, 3) := by decide +kernel
theorem dX10_init_63 : decode cX10_init 63 = .ok (.aload_n 0, 1) := by decide +kernel
theorem dX10_init_64 : decode cX10_init 64 = .ok (.new 39, 3) := by decide +kernel
theorem dX10_init_67 : decode cX10_init 67 = .ok (.dup, 1) := by decide +kernel
theorem dX10_init_68 : decode cX10_init 68 = .ok (.invokespecial 41, 3) := by decide +kernel
theorem dX10_init_71 : decode cX10_init 71 = .ok (.putfield 46, 3) := by decide +kernel
theorem dX10_init_74 : decode cX10_init 74 = .ok (.aload_n 0, 1) := by decide +kernel
theorem dX10_init_75 : decode cX10_init 75 = .ok (.getfield 35, 3) := by decide +kernel
theorem dX10_init_78 : decode cX10_init 78 = .ok (.aload_n 0, 1) := by decide +kernel
theorem dX10_init_79 : decode cX10_init 79 = .ok (.getfield 42, 3) := by decide +kernel
theorem dX10_init_82 : decode cX10_init 82 = .ok (.invokevirtual 49, 3) := by decide +kernel
theorem dX10_init_85 : decode cX10_init 85 = .ok (.return_, 1) := by decide +kernel
theorem dX10_feed_0 : decode cX10_feed 0 = .ok (.iload_n 1, 1) := by decide +kernel
theorem dX10_feed_1 : decode cX10_feed 1 = .ok (.iconst 1, 1) := by decide +kernel
theorem dX10_feed_2 : decode cX10_feed 2 = .ok (.if_icmp .lt 9, 3) := by decide +kernel
theorem dX10_feed_5 : decode cX10_feed 5 = .ok (.iload_n 1, 1) := by decide +kernel
theorem dX10_feed_6 : decode cX10_feed 6 = .ok (.bipush 8, 2) := by decide +kernel
theorem dX10_feed_8 : decode cX10_feed 8 = .ok (.if_icmp .le 11, 3) := by decide +kernel
theorem dX10_feed_11 : decode cX10_feed 11 = .ok (.new 53, 3) := by decide +kernel
theorem dX10_feed_14 : decode cX10_feed 14 = .ok (.dup, 1) := by decide +kernel
theorem dX10_feed_15 : decode cX10_feed 15 = .ok (.invokespecial 55, 3) := by decide +kernel
theorem dX10_feed_18 : decode cX10_feed 18 = .ok (.athrow, 1) := by decide +kernel
theorem dX10_feed_19 : decode cX10_feed 19 = .ok (.aload_n 0, 1) := by decide +kernel
theorem dX10_feed_20 : decode cX10_feed 20 = .ok (.getfield 12, 3) := by decide +kernel
theorem dX10_feed_23 : decode cX10_feed 23 = .ok (.iload_n 1, 1) := by decide +kernel
theorem dX10_feed_24 : decode cX10_feed 24 = .ok (.lload_n 2, 1) := by decide +kernel
theorem dX10_feed_25 : decode cX10_feed 25 = .ok (.invokevirtual 56, 3) := by decide +kernel
theorem dX10_feed_28 : decode cX10_feed 28 = .ok (.ifCond .eq 13, 3) := by decide +kernel
theorem dX10_feed_31 : decode cX10_feed 31 = .ok (.aload_n 0, 1) := by decide +kernel
theorem dX10_feed_32 : decode cX10_feed 32 = .ok (.getfield 12, 3) := by decide +kernel
theorem dX10_feed_35 : decode cX10_feed 35 = .ok (.getfield 60, 3) := by decide +kernel
theorem dX10_feed_38 : decode cX10_feed 38 = .ok (.goto 4, 3) := by decide +kernel
theorem dX10_feed_41 : decode cX10_feed 41 = .ok (.iconst (-1), 1) := by decide +kernel
theorem dX10_feed_42 : decode cX10_feed 42 = .ok (.ireturn, 1) := by decide +kernel
theorem dX10_wipe_0 : decode cX10_wipe 0 = .ok (.aload_n 0, 1) := by decide +kernel
theorem dX10_wipe_1 : decode cX10_wipe 1 = .ok (.getfield 12, 3) := by decide +kernel
theorem dX10_wipe_4 : decode cX10_wipe 4 = .ok (.invokevirtual 64, 3) := by decide +kernel
theorem dX10_wipe_7 : decode cX10_wipe 7 = .ok (.ireturn, 1) := by decide +kernel
theorem dX10_units_0 : decode cX10_units 0 = .ok (.iload_n 1, 1) := by decide +kernel
theorem dX10_units_1 : decode cX10_units 1 = .ok (.iload_n 2, 1) := by decide +kernel
theorem dX10_units_2 : decode cX10_units 2 = .ok (.iload_n 3, 1) := by decide +kernel
theorem dX10_units_3 : decode cX10_units 3 = .ok (.invokestatic 68, 3) := by decide +kernel
theorem dX10_units_6 : decode cX10_units 6 = .ok (.ifCond .ne 11, 3) := by decide +kernel
theorem dX10_units_9 : decode cX10_units 9 = .ok (.new 53, 3) := by decide +kernel
theorem dX10_units_12 : decode cX10_units 12 = .ok (.dup, 1) := by decide +kernel
theorem dX10_units_13 : decode cX10_units 13 = .ok (.invokespecial 55, 3) := by decide +kernel
theorem dX10_units_16 : decode cX10_units 16 = .ok (.athrow, 1) := by decide +kernel
theorem dX10_units_17 : decode cX10_units 17 = .ok (.aload_n 0, 1) := by decide +kernel
theorem dX10_units_18 : decode cX10_units 18 = .ok (.getfield 28, 3) := by decide +kernel
theorem dX10_units_21 : decode cX10_units 21 = .ok (.iload_n 1, 1) := by decide +kernel
theorem dX10_units_22 : decode cX10_units 22 = .ok (.iload_n 2, 1) := by decide +kernel
theorem dX10_units_23 : decode cX10_units 23 = .ok (.iload_n 3, 1) := by decide +kernel
theorem dX10_units_24 : decode cX10_units 24 = .ok (.invokevirtual 72, 3) := by decide +kernel
theorem dX10_units_27 : decode cX10_units 27 = .ok (.aload_n 0, 1) := by decide +kernel
theorem dX10_units_28 : decode cX10_units 28 = .ok (.getfield 28, 3) := by decide +kernel
theorem dX10_units_31 : decode cX10_units 31 = .ok (.aload_n 0, 1) := by decide +kernel
theorem dX10_units_32 : decode cX10_units 32 = .ok (.getfield 42, 3) := by decide +kernel
theorem dX10_units_35 : decode cX10_units 35 = .ok (.invokevirtual 76, 3) := by decide +kernel
theorem dX10_units_38 : decode cX10_units 38 = .ok (.aload_n 0, 1) := by decide +kernel
theorem dX10_units_39 : decode cX10_units 39 = .ok (.getfield 35, 3) := by decide +kernel
theorem dX10_units_42 : decode cX10_units 42 = .ok (.aload_n 0, 1) := by decide +kernel
theorem dX10_units_43 : decode cX10_units 43 = .ok (.getfield 42, 3) := by decide +kernel
theorem dX10_units_46 : decode cX10_units 46 = .ok (.invokevirtual 49, 3) := by decide +kernel
theorem dX10_units_49 : decode cX10_units 49 = .ok (.return_, 1) := by decide +kernel
theorem dX10_compile_0 : decode cX10_compile 0 = .ok (.aload_n 0, 1) := by decide +kernel
theorem dX10_compile_1 : decode cX10_compile 1 = .ok (.getfield 21, 3) := by decide +kernel
theorem dX10_compile_4 : decode cX10_compile 4 = .ok (.aload_n 0, 1) := by decide +kernel
theorem dX10_compile_5 : decode cX10_compile 5 = .ok (.getfield 46, 3) := by decide +kernel
theorem dX10_compile_8 : decode cX10_compile 8 = .ok (.invokevirtual 79, 3) := by decide +kernel
theorem dX10_compile_11 : decode cX10_compile 11 = .ok (.ifCond .ne 5, 3) := by decide +kernel
theorem dX10_compile_14 : decode cX10_compile 14 = .ok (.iconst (-1), 1) := by decide +kernel
theorem dX10_compile_15 : decode cX10_compile 15 = .ok (.ireturn, 1) := by decide +kernel
theorem dX10_compile_16 : decode cX10_compile 16 = .ok (.aload_n 0, 1) := by decide +kernel
theorem dX10_compile_17 : decode cX10_compile 17 = .ok (.getfield 42, 3) := by decide +kernel
theorem dX10_compile_20 : decode cX10_compile 20 = .ok (.astore_n 1, 1) := by decide +kernel
theorem dX10_compile_21 : decode cX10_compile 21 = .ok (.aload_n 0, 1) := by decide +kernel
theorem dX10_compile_22 : decode cX10_compile 22 = .ok (.aload_n 0, 1) := by decide +kernel
theorem dX10_compile_23 : decode cX10_compile 23 = .ok (.getfield 46, 3) := by decide +kernel
theorem dX10_compile_26 : decode cX10_compile 26 = .ok (.putfield 42, 3) := by decide +kernel
theorem dX10_compile_29 : decode cX10_compile 29 = .ok (.aload_n 0, 1) := by decide +kernel
theorem dX10_compile_30 : decode cX10_compile 30 = .ok (.aload_n 1, 1) := by decide +kernel
theorem dX10_compile_31 : decode cX10_compile 31 = .ok (.putfield 46, 3) := by decide +kernel
theorem dX10_compile_34 : decode cX10_compile 34 = .ok (.aload_n 0, 1) := by decide +kernel
theorem dX10_compile_35 : decode cX10_compile 35 = .ok (.getfield 28, 3) := by decide +kernel
theorem dX10_compile_38 : decode cX10_compile 38 = .ok (.aload_n 0, 1) := by decide +kernel
theorem dX10_compile_39 : decode cX10_compile 39 = .ok (.getfield 42, 3) := by decide +kernel
theorem dX10_compile_42 : decode cX10_compile 42 = .ok (.invokevirtual 76, 3) := by decide +kernel
theorem dX10_compile_45 : decode cX10_compile 45 = .ok (.aload_n 0, 1) := by decide +kernel
theorem dX10_compile_46 : decode cX10_compile 46 = .ok (.getfield 35, 3) := by decide +kernel
theorem dX10_compile_49 : decode cX10_compile 49 = .ok (.aload_n 0, 1) := by decide +kernel
theorem dX10_compile_50 : decode cX10_compile 50 = .ok (.getfield 42, 3) := by decide +kernel
theorem dX10_compile_53 : decode cX10_compile 53 = .ok (.invokevirtual 49, 3) := by decide +kernel
theorem dX10_compile_56 : decode cX10_compile 56 = .ok (.aload_n 0, 1) := by decide +kernel
theorem dX10_compile_57 : decode cX10_compile 57 = .ok (.getfield 42, 3) := by decide +kernel
theorem dX10_compile_60 : decode cX10_compile 60 = .ok (.getfield 83, 3) := by decide +kernel
theorem dX10_compile_63 : decode cX10_compile 63 = .ok (.ireturn, 1) := by decide +kernel
theorem dX10_fault_0 : decode cX10_fault 0 = .ok (.aload_n 0, 1) := by decide +kernel
theorem dX10_fault_1 : decode cX10_fault 1 = .ok (.getfield 21, 3) := by decide +kernel
theorem dX10_fault_4 : decode cX10_fault 4 = .ok (.getfield 86, 3) := by decide +kernel
theorem dX10_fault_7 : decode cX10_fault 7 = .ok (.ireturn, 1) := by decide +kernel
theorem dX10_place_0 : decode cX10_place 0 = .ok (.aload_n 0, 1) := by decide +kernel
theorem dX10_place_1 : decode cX10_place 1 = .ok (.getfield 21, 3) := by decide +kernel
theorem dX10_place_4 : decode cX10_place 4 = .ok (.getfield 89, 3) := by decide +kernel
theorem dX10_place_7 : decode cX10_place 7 = .ok (.ireturn, 1) := by decide +kernel
theorem dX10_told_0 : decode cX10_told 0 = .ok (.iload_n 1, 1) := by decide +kernel
theorem dX10_told_1 : decode cX10_told 1 = .ok (.tableswitch 78 0 6 #[43, 51, 59, 67, 67, 67, 67], 43) := by decide +kernel
theorem dX10_told_44 : decode cX10_told 44 = .ok (.aload_n 0, 1) := by decide +kernel
theorem dX10_told_45 : decode cX10_told 45 = .ok (.getfield 42, 3) := by decide +kernel
theorem dX10_told_48 : decode cX10_told 48 = .ok (.getfield 92, 3) := by decide +kernel
theorem dX10_told_51 : decode cX10_told 51 = .ok (.ireturn, 1) := by decide +kernel
theorem dX10_told_52 : decode cX10_told 52 = .ok (.aload_n 0, 1) := by decide +kernel
theorem dX10_told_53 : decode cX10_told 53 = .ok (.getfield 42, 3) := by decide +kernel
theorem dX10_told_56 : decode cX10_told 56 = .ok (.invokevirtual 95, 3) := by decide +kernel
theorem dX10_told_59 : decode cX10_told 59 = .ok (.ireturn, 1) := by decide +kernel
theorem dX10_told_60 : decode cX10_told 60 = .ok (.aload_n 0, 1) := by decide +kernel
theorem dX10_told_61 : decode cX10_told 61 = .ok (.getfield 42, 3) := by decide +kernel
theorem dX10_told_64 : decode cX10_told 64 = .ok (.invokevirtual 98, 3) := by decide +kernel
theorem dX10_told_67 : decode cX10_told 67 = .ok (.ireturn, 1) := by decide +kernel
theorem dX10_told_68 : decode cX10_told 68 = .ok (.aload_n 0, 1) := by decide +kernel
theorem dX10_told_69 : decode cX10_told 69 = .ok (.getfield 42, 3) := by decide +kernel
theorem dX10_told_72 : decode cX10_told 72 = .ok (.iload_n 1, 1) := by decide +kernel
theorem dX10_told_73 : decode cX10_told 73 = .ok (.iconst 3, 1) := by decide +kernel
theorem dX10_told_74 : decode cX10_told 74 = .ok (.isub, 1) := by decide +kernel
theorem dX10_told_75 : decode cX10_told 75 = .ok (.invokevirtual 101, 3) := by decide +kernel
theorem dX10_told_78 : decode cX10_told 78 = .ok (.ireturn, 1) := by decide +kernel
theorem dX10_told_79 : decode cX10_told 79 = .ok (.new 53, 3) := by decide +kernel
theorem dX10_told_82 : decode cX10_told 82 = .ok (.dup, 1) := by decide +kernel
theorem dX10_told_83 : decode cX10_told 83 = .ok (.invokespecial 55, 3) := by decide +kernel
theorem dX10_told_86 : decode cX10_told 86 = .ok (.athrow, 1) := by decide +kernel
theorem dX10_block_0 : decode cX10_block 0 = .ok (.iload_n 1, 1) := by decide +kernel
theorem dX10_block_1 : decode cX10_block 1 = .ok (.ifCond .lt 14, 3) := by decide +kernel
theorem dX10_block_4 : decode cX10_block 4 = .ok (.iload_n 1, 1) := by decide +kernel
theorem dX10_block_5 : decode cX10_block 5 = .ok (.aload_n 0, 1) := by decide +kernel
theorem dX10_block_6 : decode cX10_block 6 = .ok (.getfield 42, 3) := by decide +kernel
theorem dX10_block_9 : decode cX10_block 9 = .ok (.getfield 92, 3) := by decide +kernel
theorem dX10_block_12 : decode cX10_block 12 = .ok (.if_icmp .lt 11, 3) := by decide +kernel
theorem dX10_block_15 : decode cX10_block 15 = .ok (.new 105, 3) := by decide +kernel
theorem dX10_block_18 : decode cX10_block 18 = .ok (.dup, 1) := by decide +kernel
theorem dX10_block_19 : decode cX10_block 19 = .ok (.invokespecial 107, 3) := by decide +kernel
theorem dX10_block_22 : decode cX10_block 22 = .ok (.athrow, 1) := by decide +kernel
theorem dX10_block_23 : decode cX10_block 23 = .ok (.aload_n 0, 1) := by decide +kernel
theorem dX10_block_24 : decode cX10_block 24 = .ok (.getfield 42, 3) := by decide +kernel
theorem dX10_block_27 : decode cX10_block 27 = .ok (.getfield 108, 3) := by decide +kernel
theorem dX10_block_30 : decode cX10_block 30 = .ok (.iload_n 1, 1) := by decide +kernel
theorem dX10_block_31 : decode cX10_block 31 = .ok (.aaload, 1) := by decide +kernel
theorem dX10_block_32 : decode cX10_block 32 = .ok (.astore_n 3, 1) := by decide +kernel
theorem dX10_block_33 : decode cX10_block 33 = .ok (.iload_n 2, 1) := by decide +kernel
theorem dX10_block_34 : decode cX10_block 34 = .ok (.tableswitch 70 0 4 #[34, 39, 55, 60, 65], 34) := by decide +kernel
theorem dX10_block_68 : decode cX10_block 68 = .ok (.aload_n 3, 1) := by decide +kernel
theorem dX10_block_69 : decode cX10_block 69 = .ok (.getfield 112, 3) := by decide +kernel
theorem dX10_block_72 : decode cX10_block 72 = .ok (.ireturn, 1) := by decide +kernel
theorem dX10_block_73 : decode cX10_block 73 = .ok (.aload_n 3, 1) := by decide +kernel
theorem dX10_block_74 : decode cX10_block 74 = .ok (.getfield 117, 3) := by decide +kernel
theorem dX10_block_77 : decode cX10_block 77 = .ok (.ifCond .ne 7, 3) := by decide +kernel
theorem dX10_block_80 : decode cX10_block 80 = .ok (.iconst (-1), 1) := by decide +kernel
theorem dX10_block_81 : decode cX10_block 81 = .ok (.goto 7, 3) := by decide +kernel
theorem dX10_block_84 : decode cX10_block 84 = .ok (.aload_n 3, 1) := by decide +kernel
theorem dX10_block_85 : decode cX10_block 85 = .ok (.getfield 120, 3) := by decide +kernel
theorem dX10_block_88 : decode cX10_block 88 = .ok (.ireturn, 1) := by decide +kernel
theorem dX10_block_89 : decode cX10_block 89 = .ok (.aload_n 3, 1) := by decide +kernel
theorem dX10_block_90 : decode cX10_block 90 = .ok (.getfield 117, 3) := by decide +kernel
theorem dX10_block_93 : decode cX10_block 93 = .ok (.ireturn, 1) := by decide +kernel
theorem dX10_block_94 : decode cX10_block 94 = .ok (.aload_n 3, 1) := by decide +kernel
theorem dX10_block_95 : decode cX10_block 95 = .ok (.getfield 123, 3) := by decide +kernel
theorem dX10_block_98 : decode cX10_block 98 = .ok (.ireturn, 1) := by decide +kernel
theorem dX10_block_99 : decode cX10_block 99 = .ok (.aload_n 3, 1) := by decide +kernel
theorem dX10_block_100 : decode cX10_block 100 = .ok (.getfield 126, 3) := by decide +kernel
theorem dX10_block_103 : decode cX10_block 103 = .ok (.ireturn, 1) := by decide +kernel
theorem dX10_block_104 : decode cX10_block 104 = .ok (.new 53, 3) := by decide +kernel
theorem dX10_block_107 : decode cX10_block 107 = .ok (.dup, 1) := by decide +kernel
theorem dX10_block_108 : decode cX10_block 108 = .ok (.invokespecial 55, 3) := by decide +kernel
theorem dX10_block_111 : decode cX10_block 111 = .ok (.athrow, 1) := by decide +kernel
theorem dX10_operation_0 : decode cX10_operation 0 = .ok (.iload_n 1, 1) := by decide +kernel
theorem dX10_operation_1 : decode cX10_operation 1 = .ok (.ifCond .lt 14, 3) := by decide +kernel
theorem dX10_operation_4 : decode cX10_operation 4 = .ok (.iload_n 1, 1) := by decide +kernel
theorem dX10_operation_5 : decode cX10_operation 5 = .ok (.aload_n 0, 1) := by decide +kernel
theorem dX10_operation_6 : decode cX10_operation 6 = .ok (.getfield 42, 3) := by decide +kernel
theorem dX10_operation_9 : decode cX10_operation 9 = .ok (.getfield 83, 3) := by decide +kernel
theorem dX10_operation_12 : decode cX10_operation 12 = .ok (.if_icmp .lt 11, 3) := by decide +kernel
theorem dX10_operation_15 : decode cX10_operation 15 = .ok (.new 105, 3) := by decide +kernel
theorem dX10_operation_18 : decode cX10_operation 18 = .ok (.dup, 1) := by decide +kernel
theorem dX10_operation_19 : decode cX10_operation 19 = .ok (.invokespecial 107, 3) := by decide +kernel
theorem dX10_operation_22 : decode cX10_operation 22 = .ok (.athrow, 1) := by decide +kernel
theorem dX10_operation_23 : decode cX10_operation 23 = .ok (.aload_n 0, 1) := by decide +kernel
theorem dX10_operation_24 : decode cX10_operation 24 = .ok (.getfield 42, 3) := by decide +kernel
theorem dX10_operation_27 : decode cX10_operation 27 = .ok (.getfield 129, 3) := by decide +kernel
theorem dX10_operation_30 : decode cX10_operation 30 = .ok (.iload_n 1, 1) := by decide +kernel
theorem dX10_operation_31 : decode cX10_operation 31 = .ok (.aaload, 1) := by decide +kernel
theorem dX10_operation_32 : decode cX10_operation 32 = .ok (.astore_n 3, 1) := by decide +kernel
theorem dX10_operation_33 : decode cX10_operation 33 = .ok (.iload_n 2, 1) := by decide +kernel
theorem dX10_operation_34 : decode cX10_operation 34 = .ok (.tableswitch 68 0 5 #[38, 43, 48, 53, 58, 63], 38) := by decide +kernel
theorem dX10_operation_72 : decode cX10_operation 72 = .ok (.aload_n 3, 1) := by decide +kernel
theorem dX10_operation_73 : decode cX10_operation 73 = .ok (.getfield 133, 3) := by decide +kernel
theorem dX10_operation_76 : decode cX10_operation 76 = .ok (.ireturn, 1) := by decide +kernel
theorem dX10_operation_77 : decode cX10_operation 77 = .ok (.aload_n 3, 1) := by decide +kernel
theorem dX10_operation_78 : decode cX10_operation 78 = .ok (.getfield 138, 3) := by decide +kernel
theorem dX10_operation_81 : decode cX10_operation 81 = .ok (.ireturn, 1) := by decide +kernel
theorem dX10_operation_82 : decode cX10_operation 82 = .ok (.aload_n 3, 1) := by decide +kernel
theorem dX10_operation_83 : decode cX10_operation 83 = .ok (.getfield 140, 3) := by decide +kernel
theorem dX10_operation_86 : decode cX10_operation 86 = .ok (.ireturn, 1) := by decide +kernel
theorem dX10_operation_87 : decode cX10_operation 87 = .ok (.aload_n 3, 1) := by decide +kernel
theorem dX10_operation_88 : decode cX10_operation 88 = .ok (.getfield 142, 3) := by decide +kernel
theorem dX10_operation_91 : decode cX10_operation 91 = .ok (.ireturn, 1) := by decide +kernel
theorem dX10_operation_92 : decode cX10_operation 92 = .ok (.aload_n 3, 1) := by decide +kernel
theorem dX10_operation_93 : decode cX10_operation 93 = .ok (.getfield 145, 3) := by decide +kernel
theorem dX10_operation_96 : decode cX10_operation 96 = .ok (.ireturn, 1) := by decide +kernel
theorem dX10_operation_97 : decode cX10_operation 97 = .ok (.aload_n 3, 1) := by decide +kernel
theorem dX10_operation_98 : decode cX10_operation 98 = .ok (.getfield 148, 3) := by decide +kernel
theorem dX10_operation_101 : decode cX10_operation 101 = .ok (.ireturn, 1) := by decide +kernel
theorem dX10_operation_102 : decode cX10_operation 102 = .ok (.new 53, 3) := by decide +kernel
theorem dX10_operation_105 : decode cX10_operation 105 = .ok (.dup, 1) := by decide +kernel
theorem dX10_operation_106 : decode cX10_operation 106 = .ok (.invokespecial 55, 3) := by decide +kernel
theorem dX10_operation_109 : decode cX10_operation 109 = .ok (.athrow, 1) := by decide +kernel
theorem dX10_set_0 : decode cX10_set 0 = .ok (.aload_n 0, 1) := by decide +kernel
theorem dX10_set_1 : decode cX10_set 1 = .ok (.iload_n 1, 1) := by decide +kernel
theorem dX10_set_2 : decode cX10_set 2 = .ok (.invokevirtual 151, 3) := by decide +kernel
theorem dX10_set_5 : decode cX10_set 5 = .ok (.istore_n 3, 1) := by decide +kernel
theorem dX10_set_6 : decode cX10_set 6 = .ok (.aload_n 0, 1) := by decide +kernel
theorem dX10_set_7 : decode cX10_set 7 = .ok (.getfield 35, 3) := by decide +kernel
theorem dX10_set_10 : decode cX10_set 10 = .ok (.getfield 154, 3) := by decide +kernel
theorem dX10_set_13 : decode cX10_set 13 = .ok (.iload_n 1, 1) := by decide +kernel
theorem dX10_set_14 : decode cX10_set 14 = .ok (.iload_n 2, 1) := by decide +kernel
theorem dX10_set_15 : decode cX10_set 15 = .ok (.iastore, 1) := by decide +kernel
theorem dX10_set_16 : decode cX10_set 16 = .ok (.iload_n 3, 1) := by decide +kernel
theorem dX10_set_17 : decode cX10_set 17 = .ok (.ireturn, 1) := by decide +kernel
theorem dX10_get_0 : decode cX10_get 0 = .ok (.iload_n 1, 1) := by decide +kernel
theorem dX10_get_1 : decode cX10_get 1 = .ok (.ifCond .lt 9, 3) := by decide +kernel
theorem dX10_get_4 : decode cX10_get 4 = .ok (.iload_n 1, 1) := by decide +kernel
theorem dX10_get_5 : decode cX10_get 5 = .ok (.bipush 8, 2) := by decide +kernel
theorem dX10_get_7 : decode cX10_get 7 = .ok (.if_icmp .lt 11, 3) := by decide +kernel
theorem dX10_get_10 : decode cX10_get 10 = .ok (.new 105, 3) := by decide +kernel
theorem dX10_get_13 : decode cX10_get 13 = .ok (.dup, 1) := by decide +kernel
theorem dX10_get_14 : decode cX10_get 14 = .ok (.invokespecial 107, 3) := by decide +kernel
theorem dX10_get_17 : decode cX10_get 17 = .ok (.athrow, 1) := by decide +kernel
theorem dX10_get_18 : decode cX10_get 18 = .ok (.aload_n 0, 1) := by decide +kernel
theorem dX10_get_19 : decode cX10_get 19 = .ok (.getfield 35, 3) := by decide +kernel
theorem dX10_get_22 : decode cX10_get 22 = .ok (.getfield 154, 3) := by decide +kernel
theorem dX10_get_25 : decode cX10_get 25 = .ok (.iload_n 1, 1) := by decide +kernel
theorem dX10_get_26 : decode cX10_get 26 = .ok (.iaload, 1) := by decide +kernel
theorem dX10_get_27 : decode cX10_get 27 = .ok (.ireturn, 1) := by decide +kernel
theorem dX10_poke_0 : decode cX10_poke 0 = .ok (.aload_n 0, 1) := by decide +kernel
theorem dX10_poke_1 : decode cX10_poke 1 = .ok (.iload_n 1, 1) := by decide +kernel
theorem dX10_poke_2 : decode cX10_poke 2 = .ok (.invokevirtual 158, 3) := by decide +kernel
theorem dX10_poke_5 : decode cX10_poke 5 = .ok (.istore_n 3, 1) := by decide +kernel
theorem dX10_poke_6 : decode cX10_poke 6 = .ok (.aload_n 0, 1) := by decide +kernel
theorem dX10_poke_7 : decode cX10_poke 7 = .ok (.getfield 35, 3) := by decide +kernel
theorem dX10_poke_10 : decode cX10_poke 10 = .ok (.getfield 161, 3) := by decide +kernel
theorem dX10_poke_13 : decode cX10_poke 13 = .ok (.iload_n 1, 1) := by decide +kernel
theorem dX10_poke_14 : decode cX10_poke 14 = .ok (.iload_n 2, 1) := by decide +kernel
theorem dX10_poke_15 : decode cX10_poke 15 = .ok (.iastore, 1) := by decide +kernel
theorem dX10_poke_16 : decode cX10_poke 16 = .ok (.iload_n 3, 1) := by decide +kernel
theorem dX10_poke_17 : decode cX10_poke 17 = .ok (.ireturn, 1) := by decide +kernel
theorem dX10_peek_0 : decode cX10_peek 0 = .ok (.iload_n 1, 1) := by decide +kernel
theorem dX10_peek_1 : decode cX10_peek 1 = .ok (.ifCond .lt 9, 3) := by decide +kernel
theorem dX10_peek_4 : decode cX10_peek 4 = .ok (.iload_n 1, 1) := by decide +kernel
theorem dX10_peek_5 : decode cX10_peek 5 = .ok (.bipush 16, 2) := by decide +kernel
theorem dX10_peek_7 : decode cX10_peek 7 = .ok (.if_icmp .lt 11, 3) := by decide +kernel
theorem dX10_peek_10 : decode cX10_peek 10 = .ok (.new 105, 3) := by decide +kernel
theorem dX10_peek_13 : decode cX10_peek 13 = .ok (.dup, 1) := by decide +kernel
theorem dX10_peek_14 : decode cX10_peek 14 = .ok (.invokespecial 107, 3) := by decide +kernel
theorem dX10_peek_17 : decode cX10_peek 17 = .ok (.athrow, 1) := by decide +kernel
theorem dX10_peek_18 : decode cX10_peek 18 = .ok (.aload_n 0, 1) := by decide +kernel
theorem dX10_peek_19 : decode cX10_peek 19 = .ok (.getfield 35, 3) := by decide +kernel
theorem dX10_peek_22 : decode cX10_peek 22 = .ok (.getfield 161, 3) := by decide +kernel
theorem dX10_peek_25 : decode cX10_peek 25 = .ok (.iload_n 1, 1) := by decide +kernel
theorem dX10_peek_26 : decode cX10_peek 26 = .ok (.iaload, 1) := by decide +kernel
theorem dX10_peek_27 : decode cX10_peek 27 = .ok (.ireturn, 1) := by decide +kernel
theorem dX10_restart_0 : decode cX10_restart 0 = .ok (.aload_n 0, 1) := by decide +kernel
theorem dX10_restart_1 : decode cX10_restart 1 = .ok (.getfield 35, 3) := by decide +kernel
theorem dX10_restart_4 : decode cX10_restart 4 = .ok (.aload_n 0, 1) := by decide +kernel
theorem dX10_restart_5 : decode cX10_restart 5 = .ok (.getfield 42, 3) := by decide +kernel
theorem dX10_restart_8 : decode cX10_restart 8 = .ok (.invokevirtual 49, 3) := by decide +kernel
theorem dX10_restart_11 : decode cX10_restart 11 = .ok (.return_, 1) := by decide +kernel
theorem dX10_run_0 : decode cX10_run 0 = .ok (.iload_n 1, 1) := by decide +kernel
theorem dX10_run_1 : decode cX10_run 1 = .ok (.ifCond .lt 10, 3) := by decide +kernel
theorem dX10_run_4 : decode cX10_run 4 = .ok (.iload_n 1, 1) := by decide +kernel
theorem dX10_run_5 : decode cX10_run 5 = .ok (.sipush 5000, 3) := by decide +kernel
theorem dX10_run_8 : decode cX10_run 8 = .ok (.if_icmp .le 11, 3) := by decide +kernel
theorem dX10_run_11 : decode cX10_run 11 = .ok (.new 53, 3) := by decide +kernel
theorem dX10_run_14 : decode cX10_run 14 = .ok (.dup, 1) := by decide +kernel
theorem dX10_run_15 : decode cX10_run 15 = .ok (.invokespecial 55, 3) := by decide +kernel
theorem dX10_run_18 : decode cX10_run 18 = .ok (.athrow, 1) := by decide +kernel
theorem dX10_run_19 : decode cX10_run 19 = .ok (.aload_n 0, 1) := by decide +kernel
theorem dX10_run_20 : decode cX10_run 20 = .ok (.getfield 35, 3) := by decide +kernel
theorem dX10_run_23 : decode cX10_run 23 = .ok (.iload_n 1, 1) := by decide +kernel
theorem dX10_run_24 : decode cX10_run 24 = .ok (.invokevirtual 164, 3) := by decide +kernel
theorem dX10_run_27 : decode cX10_run 27 = .ok (.ireturn, 1) := by decide +kernel
theorem dX10_at_0 : decode cX10_at 0 = .ok (.aload_n 0, 1) := by decide +kernel
theorem dX10_at_1 : decode cX10_at 1 = .ok (.getfield 35, 3) := by decide +kernel
theorem dX10_at_4 : decode cX10_at 4 = .ok (.getfield 167, 3) := by decide +kernel
theorem dX10_at_7 : decode cX10_at 7 = .ok (.ireturn, 1) := by decide +kernel
theorem dX10_cycles_0 : decode cX10_cycles 0 = .ok (.aload_n 0, 1) := by decide +kernel
theorem dX10_cycles_1 : decode cX10_cycles 1 = .ok (.getfield 35, 3) := by decide +kernel
theorem dX10_cycles_4 : decode cX10_cycles 4 = .ok (.getfield 170, 3) := by decide +kernel
theorem dX10_cycles_7 : decode cX10_cycles 7 = .ok (.lreturn, 1) := by decide +kernel
theorem dJ9_max_7cf53_0 : decode cJ9_max_7cf53 0 = .ok (.iload_n 0, 1) := by decide +kernel
theorem dJ9_max_7cf53_1 : decode cJ9_max_7cf53 1 = .ok (.iload_n 1, 1) := by decide +kernel
theorem dJ9_max_7cf53_2 : decode cJ9_max_7cf53 2 = .ok (.if_icmp .lt 7, 3) := by decide +kernel
theorem dJ9_max_7cf53_5 : decode cJ9_max_7cf53 5 = .ok (.iload_n 0, 1) := by decide +kernel
theorem dJ9_max_7cf53_6 : decode cJ9_max_7cf53 6 = .ok (.goto 4, 3) := by decide +kernel
theorem dJ9_max_7cf53_9 : decode cJ9_max_7cf53 9 = .ok (.iload_n 1, 1) := by decide +kernel
theorem dJ9_max_7cf53_10 : decode cJ9_max_7cf53 10 = .ok (.ireturn, 1) := by decide +kernel
theorem dJ9_min_f86c9_0 : decode cJ9_min_f86c9 0 = .ok (.lload_n 0, 1) := by decide +kernel
theorem dJ9_min_f86c9_1 : decode cJ9_min_f86c9 1 = .ok (.lload_n 2, 1) := by decide +kernel
theorem dJ9_min_f86c9_2 : decode cJ9_min_f86c9 2 = .ok (.lcmp, 1) := by decide +kernel
theorem dJ9_min_f86c9_3 : decode cJ9_min_f86c9 3 = .ok (.ifCond .gt 7, 3) := by decide +kernel
theorem dJ9_min_f86c9_6 : decode cJ9_min_f86c9 6 = .ok (.lload_n 0, 1) := by decide +kernel
theorem dJ9_min_f86c9_7 : decode cJ9_min_f86c9 7 = .ok (.goto 4, 3) := by decide +kernel
theorem dJ9_min_f86c9_10 : decode cJ9_min_f86c9 10 = .ok (.lload_n 2, 1) := by decide +kernel
theorem dJ9_min_f86c9_11 : decode cJ9_min_f86c9 11 = .ok (.lreturn, 1) := by decide +kernel
theorem dJ0_length_8abf5_0 : decode cJ0_length_8abf5 0 = .ok (.aload_n 0, 1) := by decide +kernel
theorem dJ0_length_8abf5_1 : decode cJ0_length_8abf5 1 = .ok (.getfield 9, 3) := by decide +kernel
theorem dJ0_length_8abf5_4 : decode cJ0_length_8abf5 4 = .ok (.arraylength, 1) := by decide +kernel
theorem dJ0_length_8abf5_5 : decode cJ0_length_8abf5 5 = .ok (.aload_n 0, 1) := by decide +kernel
theorem dJ0_length_8abf5_6 : decode cJ0_length_8abf5 6 = .ok (.invokevirtual 335, 3) := by decide +kernel
theorem dJ0_length_8abf5_9 : decode cJ0_length_8abf5 9 = .ok (.ishr, 1) := by decide +kernel
theorem dJ0_length_8abf5_10 : decode cJ0_length_8abf5 10 = .ok (.ireturn, 1) := by decide +kernel
theorem dJ0_charAt_5068e_0 : decode cJ0_charAt_5068e 0 = .ok (.aload_n 0, 1) := by decide +kernel
theorem dJ0_charAt_5068e_1 : decode cJ0_charAt_5068e 1 = .ok (.invokevirtual 492, 3) := by decide +kernel
theorem dJ0_charAt_5068e_4 : decode cJ0_charAt_5068e 4 = .ok (.ifCond .eq 12, 3) := by decide +kernel
theorem dJ0_charAt_5068e_7 : decode cJ0_charAt_5068e 7 = .ok (.aload_n 0, 1) := by decide +kernel
theorem dJ0_charAt_5068e_8 : decode cJ0_charAt_5068e 8 = .ok (.getfield 9, 3) := by decide +kernel
theorem dJ0_charAt_5068e_11 : decode cJ0_charAt_5068e 11 = .ok (.iload_n 1, 1) := by decide +kernel
theorem dJ0_charAt_5068e_12 : decode cJ0_charAt_5068e 12 = .ok (.invokestatic 495, 3) := by decide +kernel
theorem dJ0_charAt_5068e_15 : decode cJ0_charAt_5068e 15 = .ok (.ireturn, 1) := by decide +kernel
theorem dJ0_charAt_5068e_16 : decode cJ0_charAt_5068e 16 = .ok (.aload_n 0, 1) := by decide +kernel
theorem dJ0_charAt_5068e_17 : decode cJ0_charAt_5068e 17 = .ok (.getfield 9, 3) := by decide +kernel
theorem dJ0_charAt_5068e_20 : decode cJ0_charAt_5068e 20 = .ok (.iload_n 1, 1) := by decide +kernel
theorem dJ0_charAt_5068e_21 : decode cJ0_charAt_5068e 21 = .ok (.invokestatic 498, 3) := by decide +kernel
theorem dJ0_charAt_5068e_24 : decode cJ0_charAt_5068e 24 = .ok (.ireturn, 1) := by decide +kernel
theorem dJ0_coder_7d493_0 : decode cJ0_coder_7d493 0 = .ok (.getstatic 38, 3) := by decide +kernel
theorem dJ0_coder_7d493_3 : decode cJ0_coder_7d493 3 = .ok (.ifCond .eq 10, 3) := by decide +kernel
theorem dJ0_coder_7d493_6 : decode cJ0_coder_7d493 6 = .ok (.aload_n 0, 1) := by decide +kernel
theorem dJ0_coder_7d493_7 : decode cJ0_coder_7d493 7 = .ok (.getfield 15, 3) := by decide +kernel
theorem dJ0_coder_7d493_10 : decode cJ0_coder_7d493 10 = .ok (.goto 4, 3) := by decide +kernel
theorem dJ0_coder_7d493_13 : decode cJ0_coder_7d493 13 = .ok (.iconst 1, 1) := by decide +kernel
theorem dJ0_coder_7d493_14 : decode cJ0_coder_7d493 14 = .ok (.ireturn, 1) := by decide +kernel
theorem dJ0_isLatin1_aae02_0 : decode cJ0_isLatin1_aae02 0 = .ok (.getstatic 38, 3) := by decide +kernel
theorem dJ0_isLatin1_aae02_3 : decode cJ0_isLatin1_aae02 3 = .ok (.ifCond .eq 14, 3) := by decide +kernel
theorem dJ0_isLatin1_aae02_6 : decode cJ0_isLatin1_aae02 6 = .ok (.aload_n 0, 1) := by decide +kernel
theorem dJ0_isLatin1_aae02_7 : decode cJ0_isLatin1_aae02 7 = .ok (.getfield 15, 3) := by decide +kernel
theorem dJ0_isLatin1_aae02_10 : decode cJ0_isLatin1_aae02 10 = .ok (.ifCond .ne 7, 3) := by decide +kernel
theorem dJ0_isLatin1_aae02_13 : decode cJ0_isLatin1_aae02 13 = .ok (.iconst 1, 1) := by decide +kernel
theorem dJ0_isLatin1_aae02_14 : decode cJ0_isLatin1_aae02 14 = .ok (.goto 4, 3) := by decide +kernel
theorem dJ0_isLatin1_aae02_17 : decode cJ0_isLatin1_aae02 17 = .ok (.iconst 0, 1) := by decide +kernel
theorem dJ0_isLatin1_aae02_18 : decode cJ0_isLatin1_aae02 18 = .ok (.ireturn, 1) := by decide +kernel
theorem dJ0_checkIndex_df160_0 : decode cJ0_checkIndex_df160 0 = .ok (.iload_n 0, 1) := by decide +kernel
theorem dJ0_checkIndex_df160_1 : decode cJ0_checkIndex_df160 1 = .ok (.iload_n 1, 1) := by decide +kernel
theorem dJ0_checkIndex_df160_2 : decode cJ0_checkIndex_df160 2 = .ok (.getstatic 1053, 3) := by decide +kernel
theorem dJ0_checkIndex_df160_5 : decode cJ0_checkIndex_df160 5 = .ok (.invokestatic 1059, 3) := by decide +kernel
theorem dJ0_checkIndex_df160_8 : decode cJ0_checkIndex_df160 8 = .ok (.pop, 1) := by decide +kernel
theorem dJ0_checkIndex_df160_9 : decode cJ0_checkIndex_df160 9 = .ok (.return_, 1) := by decide +kernel
theorem dJ1_charAt_3b067_0 : decode cJ1_charAt_3b067 0 = .ok (.iload_n 1, 1) := by decide +kernel
theorem dJ1_charAt_3b067_1 : decode cJ1_charAt_3b067 1 = .ok (.aload_n 0, 1) := by decide +kernel
theorem dJ1_charAt_3b067_2 : decode cJ1_charAt_3b067 2 = .ok (.arraylength, 1) := by decide +kernel
theorem dJ1_charAt_3b067_3 : decode cJ1_charAt_3b067 3 = .ok (.invokestatic 9, 3) := by decide +kernel
theorem dJ1_charAt_3b067_6 : decode cJ1_charAt_3b067 6 = .ok (.aload_n 0, 1) := by decide +kernel
theorem dJ1_charAt_3b067_7 : decode cJ1_charAt_3b067 7 = .ok (.iload_n 1, 1) := by decide +kernel
theorem dJ1_charAt_3b067_8 : decode cJ1_charAt_3b067 8 = .ok (.baload, 1) := by decide +kernel
theorem dJ1_charAt_3b067_9 : decode cJ1_charAt_3b067 9 = .ok (.sipush 255, 3) := by decide +kernel
theorem dJ1_charAt_3b067_12 : decode cJ1_charAt_3b067 12 = .ok (.iand, 1) := by decide +kernel
theorem dJ1_charAt_3b067_13 : decode cJ1_charAt_3b067 13 = .ok (.i2c, 1) := by decide +kernel
theorem dJ1_charAt_3b067_14 : decode cJ1_charAt_3b067 14 = .ok (.ireturn, 1) := by decide +kernel
theorem dJ2_getChar_3b067_0 : decode cJ2_getChar_3b067 0 = .ok (.getstatic 44, 3) := by decide +kernel
theorem dJ2_getChar_3b067_3 : decode cJ2_getChar_3b067 3 = .ok (.ifCond .ne 25, 3) := by decide +kernel
theorem dJ2_getChar_3b067_6 : decode cJ2_getChar_3b067 6 = .ok (.iload_n 1, 1) := by decide +kernel
theorem dJ2_getChar_3b067_7 : decode cJ2_getChar_3b067 7 = .ok (.ifCond .lt 11, 3) := by decide +kernel
theorem dJ2_getChar_3b067_10 : decode cJ2_getChar_3b067 10 = .ok (.iload_n 1, 1) := by decide +kernel
theorem dJ2_getChar_3b067_11 : decode cJ2_getChar_3b067 11 = .ok (.aload_n 0, 1) := by decide +kernel
theorem dJ2_getChar_3b067_12 : decode cJ2_getChar_3b067 12 = .ok (.invokestatic 48, 3) := by decide +kernel
theorem dJ2_getChar_3b067_15 : decode cJ2_getChar_3b067 15 = .ok (.if_icmp .lt 13, 3) := by decide +kernel
theorem dJ2_getChar_3b067_18 : decode cJ2_getChar_3b067 18 = .ok (.new 52, 3) := by decide +kernel
theorem dJ2_getChar_3b067_21 : decode cJ2_getChar_3b067 21 = .ok (.dup, 1) := by decide +kernel
theorem dJ2_getChar_3b067_22 : decode cJ2_getChar_3b067 22 = .ok (.ldc 54, 2) := by decide +kernel
theorem dJ2_getChar_3b067_24 : decode cJ2_getChar_3b067 24 = .ok (.invokespecial 56, 3) := by decide +kernel
theorem dJ2_getChar_3b067_27 : decode cJ2_getChar_3b067 27 = .ok (.athrow, 1) := by decide +kernel
theorem dJ2_getChar_3b067_28 : decode cJ2_getChar_3b067 28 = .ok (.iload_n 1, 1) := by decide +kernel
theorem dJ2_getChar_3b067_29 : decode cJ2_getChar_3b067 29 = .ok (.iconst 1, 1) := by decide +kernel
theorem dJ2_getChar_3b067_30 : decode cJ2_getChar_3b067 30 = .ok (.ishl, 1) := by decide +kernel
theorem dJ2_getChar_3b067_31 : decode cJ2_getChar_3b067 31 = .ok (.istore_n 1, 1) := by decide +kernel
theorem dJ2_getChar_3b067_32 : decode cJ2_getChar_3b067 32 = .ok (.aload_n 0, 1) := by decide +kernel
theorem dJ2_getChar_3b067_33 : decode cJ2_getChar_3b067 33 = .ok (.iload_n 1, 1) := by decide +kernel
theorem dJ2_getChar_3b067_34 : decode cJ2_getChar_3b067 34 = .ok (.iinc 1 1, 3) := by decide +kernel
theorem dJ2_getChar_3b067_37 : decode cJ2_getChar_3b067 37 = .ok (.baload, 1) := by decide +kernel
theorem dJ2_getChar_3b067_38 : decode cJ2_getChar_3b067 38 = .ok (.sipush 255, 3) := by decide +kernel
theorem dJ2_getChar_3b067_41 : decode cJ2_getChar_3b067 41 = .ok (.iand, 1) := by decide +kernel
theorem dJ2_getChar_3b067_42 : decode cJ2_getChar_3b067 42 = .ok (.getstatic 59, 3) := by decide +kernel
theorem dJ2_getChar_3b067_45 : decode cJ2_getChar_3b067 45 = .ok (.ishl, 1) := by decide +kernel
theorem dJ2_getChar_3b067_46 : decode cJ2_getChar_3b067 46 = .ok (.aload_n 0, 1) := by decide +kernel
theorem dJ2_getChar_3b067_47 : decode cJ2_getChar_3b067 47 = .ok (.iload_n 1, 1) := by decide +kernel
theorem dJ2_getChar_3b067_48 : decode cJ2_getChar_3b067 48 = .ok (.baload, 1) := by decide +kernel
theorem dJ2_getChar_3b067_49 : decode cJ2_getChar_3b067 49 = .ok (.sipush 255, 3) := by decide +kernel
theorem dJ2_getChar_3b067_52 : decode cJ2_getChar_3b067 52 = .ok (.iand, 1) := by decide +kernel
theorem dJ2_getChar_3b067_53 : decode cJ2_getChar_3b067 53 = .ok (.getstatic 63, 3) := by decide +kernel
theorem dJ2_getChar_3b067_56 : decode cJ2_getChar_3b067 56 = .ok (.ishl, 1) := by decide +kernel
theorem dJ2_getChar_3b067_57 : decode cJ2_getChar_3b067 57 = .ok (.ior, 1) := by decide +kernel
theorem dJ2_getChar_3b067_58 : decode cJ2_getChar_3b067 58 = .ok (.i2c, 1) := by decide +kernel
theorem dJ2_getChar_3b067_59 : decode cJ2_getChar_3b067 59 = .ok (.ireturn, 1) := by decide +kernel
theorem dJ2_length_9d52b_0 : decode cJ2_length_9d52b 0 = .ok (.aload_n 0, 1) := by decide +kernel
theorem dJ2_length_9d52b_1 : decode cJ2_length_9d52b 1 = .ok (.arraylength, 1) := by decide +kernel
theorem dJ2_length_9d52b_2 : decode cJ2_length_9d52b 2 = .ok (.iconst 1, 1) := by decide +kernel
theorem dJ2_length_9d52b_3 : decode cJ2_length_9d52b 3 = .ok (.ishr, 1) := by decide +kernel
theorem dJ2_length_9d52b_4 : decode cJ2_length_9d52b 4 = .ok (.ireturn, 1) := by decide +kernel
theorem dJ2_charAt_3b067_0 : decode cJ2_charAt_3b067 0 = .ok (.iload_n 1, 1) := by decide +kernel
theorem dJ2_charAt_3b067_1 : decode cJ2_charAt_3b067 1 = .ok (.aload_n 0, 1) := by decide +kernel
theorem dJ2_charAt_3b067_2 : decode cJ2_charAt_3b067 2 = .ok (.invokestatic 67, 3) := by decide +kernel
theorem dJ2_charAt_3b067_5 : decode cJ2_charAt_3b067 5 = .ok (.aload_n 0, 1) := by decide +kernel
theorem dJ2_charAt_3b067_6 : decode cJ2_charAt_3b067 6 = .ok (.iload_n 1, 1) := by decide +kernel
theorem dJ2_charAt_3b067_7 : decode cJ2_charAt_3b067 7 = .ok (.invokestatic 71, 3) := by decide +kernel
theorem dJ2_charAt_3b067_10 : decode cJ2_charAt_3b067 10 = .ok (.ireturn, 1) := by decide +kernel
theorem dJ2_checkIndex_2214a_0 : decode cJ2_checkIndex_2214a 0 = .ok (.iload_n 0, 1) := by decide +kernel
theorem dJ2_checkIndex_2214a_1 : decode cJ2_checkIndex_2214a 1 = .ok (.aload_n 1, 1) := by decide +kernel
theorem dJ2_checkIndex_2214a_2 : decode cJ2_checkIndex_2214a 2 = .ok (.invokestatic 48, 3) := by decide +kernel
theorem dJ2_checkIndex_2214a_5 : decode cJ2_checkIndex_2214a 5 = .ok (.invokestatic 414, 3) := by decide +kernel
theorem dJ2_checkIndex_2214a_8 : decode cJ2_checkIndex_2214a 8 = .ok (.return_, 1) := by decide +kernel
theorem dJ3_checkIndex_8e157_0 : decode cJ3_checkIndex_8e157 0 = .ok (.iload_n 0, 1) := by decide +kernel
theorem dJ3_checkIndex_8e157_1 : decode cJ3_checkIndex_8e157 1 = .ok (.ifCond .lt 8, 3) := by decide +kernel
theorem dJ3_checkIndex_8e157_4 : decode cJ3_checkIndex_8e157 4 = .ok (.iload_n 0, 1) := by decide +kernel
theorem dJ3_checkIndex_8e157_5 : decode cJ3_checkIndex_8e157 5 = .ok (.iload_n 1, 1) := by decide +kernel
theorem dJ3_checkIndex_8e157_6 : decode cJ3_checkIndex_8e157 6 = .ok (.if_icmp .lt 10, 3) := by decide +kernel
theorem dJ3_checkIndex_8e157_9 : decode cJ3_checkIndex_8e157 9 = .ok (.aload_n 2, 1) := by decide +kernel
theorem dJ3_checkIndex_8e157_10 : decode cJ3_checkIndex_8e157 10 = .ok (.iload_n 0, 1) := by decide +kernel
theorem dJ3_checkIndex_8e157_11 : decode cJ3_checkIndex_8e157 11 = .ok (.iload_n 1, 1) := by decide +kernel
theorem dJ3_checkIndex_8e157_12 : decode cJ3_checkIndex_8e157 12 = .ok (.invokestatic 95, 3) := by decide +kernel
theorem dJ3_checkIndex_8e157_15 : decode cJ3_checkIndex_8e157 15 = .ok (.athrow, 1) := by decide +kernel
theorem dJ3_checkIndex_8e157_16 : decode cJ3_checkIndex_8e157 16 = .ok (.iload_n 0, 1) := by decide +kernel
theorem dJ3_checkIndex_8e157_17 : decode cJ3_checkIndex_8e157 17 = .ok (.ireturn, 1) := by decide +kernel
theorem dL_feed_0 : decode cL_feed 0 = .ok (.aload 4, 2) := by decide +kernel
theorem dL_feed_2 : decode cL_feed 2 = .ok (.iconst 0, 1) := by decide +kernel
theorem dL_feed_3 : decode cL_feed 3 = .ok (.aload_n 0, 1) := by decide +kernel
theorem dL_feed_4 : decode cL_feed 4 = .ok (.iload_n 1, 1) := by decide +kernel
theorem dL_feed_5 : decode cL_feed 5 = .ok (.lload_n 2, 1) := by decide +kernel
theorem dL_feed_6 : decode cL_feed 6 = .ok (.invokevirtual 7, 3) := by decide +kernel
theorem dL_feed_9 : decode cL_feed 9 = .ok (.i2l, 1) := by decide +kernel
theorem dL_feed_10 : decode cL_feed 10 = .ok (.lastore, 1) := by decide +kernel
theorem dL_feed_11 : decode cL_feed 11 = .ok (.goto 7, 3) := by decide +kernel
theorem dL_feed_14 : decode cL_feed 14 = .ok (.astore 5, 2) := by decide +kernel
theorem dL_feed_16 : decode cL_feed 16 = .ok (.iconst 1, 1) := by decide +kernel
theorem dL_feed_17 : decode cL_feed 17 = .ok (.ireturn, 1) := by decide +kernel
theorem dL_feed_18 : decode cL_feed 18 = .ok (.iconst 0, 1) := by decide +kernel
theorem dL_feed_19 : decode cL_feed 19 = .ok (.ireturn, 1) := by decide +kernel
theorem dL_units_0 : decode cL_units 0 = .ok (.aload_n 0, 1) := by decide +kernel
theorem dL_units_1 : decode cL_units 1 = .ok (.iload_n 1, 1) := by decide +kernel
theorem dL_units_2 : decode cL_units 2 = .ok (.iload_n 2, 1) := by decide +kernel
theorem dL_units_3 : decode cL_units 3 = .ok (.iload_n 3, 1) := by decide +kernel
theorem dL_units_4 : decode cL_units 4 = .ok (.invokevirtual 15, 3) := by decide +kernel
theorem dL_units_7 : decode cL_units 7 = .ok (.goto 7, 3) := by decide +kernel
theorem dL_units_10 : decode cL_units 10 = .ok (.astore 4, 2) := by decide +kernel
theorem dL_units_12 : decode cL_units 12 = .ok (.iconst 1, 1) := by decide +kernel
theorem dL_units_13 : decode cL_units 13 = .ok (.ireturn, 1) := by decide +kernel
theorem dL_units_14 : decode cL_units 14 = .ok (.iconst 0, 1) := by decide +kernel
theorem dL_units_15 : decode cL_units 15 = .ok (.ireturn, 1) := by decide +kernel
theorem dL_told_0 : decode cL_told 0 = .ok (.aload_n 2, 1) := by decide +kernel
theorem dL_told_1 : decode cL_told 1 = .ok (.iconst 0, 1) := by decide +kernel
theorem dL_told_2 : decode cL_told 2 = .ok (.aload_n 0, 1) := by decide +kernel
theorem dL_told_3 : decode cL_told 3 = .ok (.iload_n 1, 1) := by decide +kernel
theorem dL_told_4 : decode cL_told 4 = .ok (.invokevirtual 19, 3) := by decide +kernel
theorem dL_told_7 : decode cL_told 7 = .ok (.i2l, 1) := by decide +kernel
theorem dL_told_8 : decode cL_told 8 = .ok (.lastore, 1) := by decide +kernel
theorem dL_told_9 : decode cL_told 9 = .ok (.goto 6, 3) := by decide +kernel
theorem dL_told_12 : decode cL_told 12 = .ok (.astore_n 3, 1) := by decide +kernel
theorem dL_told_13 : decode cL_told 13 = .ok (.iconst 1, 1) := by decide +kernel
theorem dL_told_14 : decode cL_told 14 = .ok (.ireturn, 1) := by decide +kernel
theorem dL_told_15 : decode cL_told 15 = .ok (.iconst 0, 1) := by decide +kernel
theorem dL_told_16 : decode cL_told 16 = .ok (.ireturn, 1) := by decide +kernel
theorem dL_block_0 : decode cL_block 0 = .ok (.aload_n 3, 1) := by decide +kernel
theorem dL_block_1 : decode cL_block 1 = .ok (.iconst 0, 1) := by decide +kernel
theorem dL_block_2 : decode cL_block 2 = .ok (.aload_n 0, 1) := by decide +kernel
theorem dL_block_3 : decode cL_block 3 = .ok (.iload_n 1, 1) := by decide +kernel
theorem dL_block_4 : decode cL_block 4 = .ok (.iload_n 2, 1) := by decide +kernel
theorem dL_block_5 : decode cL_block 5 = .ok (.invokevirtual 23, 3) := by decide +kernel
theorem dL_block_8 : decode cL_block 8 = .ok (.i2l, 1) := by decide +kernel
theorem dL_block_9 : decode cL_block 9 = .ok (.lastore, 1) := by decide +kernel
theorem dL_block_10 : decode cL_block 10 = .ok (.goto 11, 3) := by decide +kernel
theorem dL_block_13 : decode cL_block 13 = .ok (.astore 4, 2) := by decide +kernel
theorem dL_block_15 : decode cL_block 15 = .ok (.iconst 1, 1) := by decide +kernel
theorem dL_block_16 : decode cL_block 16 = .ok (.ireturn, 1) := by decide +kernel
theorem dL_block_17 : decode cL_block 17 = .ok (.astore 4, 2) := by decide +kernel
theorem dL_block_19 : decode cL_block 19 = .ok (.iconst 2, 1) := by decide +kernel
theorem dL_block_20 : decode cL_block 20 = .ok (.ireturn, 1) := by decide +kernel
theorem dL_block_21 : decode cL_block 21 = .ok (.iconst 0, 1) := by decide +kernel
theorem dL_block_22 : decode cL_block 22 = .ok (.ireturn, 1) := by decide +kernel
theorem dL_operation_0 : decode cL_operation 0 = .ok (.aload_n 3, 1) := by decide +kernel
theorem dL_operation_1 : decode cL_operation 1 = .ok (.iconst 0, 1) := by decide +kernel
theorem dL_operation_2 : decode cL_operation 2 = .ok (.aload_n 0, 1) := by decide +kernel
theorem dL_operation_3 : decode cL_operation 3 = .ok (.iload_n 1, 1) := by decide +kernel
theorem dL_operation_4 : decode cL_operation 4 = .ok (.iload_n 2, 1) := by decide +kernel
theorem dL_operation_5 : decode cL_operation 5 = .ok (.invokevirtual 29, 3) := by decide +kernel
theorem dL_operation_8 : decode cL_operation 8 = .ok (.i2l, 1) := by decide +kernel
theorem dL_operation_9 : decode cL_operation 9 = .ok (.lastore, 1) := by decide +kernel
theorem dL_operation_10 : decode cL_operation 10 = .ok (.goto 11, 3) := by decide +kernel
theorem dL_operation_13 : decode cL_operation 13 = .ok (.astore 4, 2) := by decide +kernel
theorem dL_operation_15 : decode cL_operation 15 = .ok (.iconst 1, 1) := by decide +kernel
theorem dL_operation_16 : decode cL_operation 16 = .ok (.ireturn, 1) := by decide +kernel
theorem dL_operation_17 : decode cL_operation 17 = .ok (.astore 4, 2) := by decide +kernel
theorem dL_operation_19 : decode cL_operation 19 = .ok (.iconst 2, 1) := by decide +kernel
theorem dL_operation_20 : decode cL_operation 20 = .ok (.ireturn, 1) := by decide +kernel
theorem dL_operation_21 : decode cL_operation 21 = .ok (.iconst 0, 1) := by decide +kernel
theorem dL_operation_22 : decode cL_operation 22 = .ok (.ireturn, 1) := by decide +kernel
theorem dL_set_0 : decode cL_set 0 = .ok (.aload_n 3, 1) := by decide +kernel
theorem dL_set_1 : decode cL_set 1 = .ok (.iconst 0, 1) := by decide +kernel
theorem dL_set_2 : decode cL_set 2 = .ok (.aload_n 0, 1) := by decide +kernel
theorem dL_set_3 : decode cL_set 3 = .ok (.iload_n 1, 1) := by decide +kernel
theorem dL_set_4 : decode cL_set 4 = .ok (.iload_n 2, 1) := by decide +kernel
theorem dL_set_5 : decode cL_set 5 = .ok (.invokevirtual 32, 3) := by decide +kernel
theorem dL_set_8 : decode cL_set 8 = .ok (.i2l, 1) := by decide +kernel
theorem dL_set_9 : decode cL_set 9 = .ok (.lastore, 1) := by decide +kernel
theorem dL_set_10 : decode cL_set 10 = .ok (.goto 7, 3) := by decide +kernel
theorem dL_set_13 : decode cL_set 13 = .ok (.astore 4, 2) := by decide +kernel
theorem dL_set_15 : decode cL_set 15 = .ok (.iconst 1, 1) := by decide +kernel
theorem dL_set_16 : decode cL_set 16 = .ok (.ireturn, 1) := by decide +kernel
theorem dL_set_17 : decode cL_set 17 = .ok (.iconst 0, 1) := by decide +kernel
theorem dL_set_18 : decode cL_set 18 = .ok (.ireturn, 1) := by decide +kernel
theorem dL_get_0 : decode cL_get 0 = .ok (.aload_n 2, 1) := by decide +kernel
theorem dL_get_1 : decode cL_get 1 = .ok (.iconst 0, 1) := by decide +kernel
theorem dL_get_2 : decode cL_get 2 = .ok (.aload_n 0, 1) := by decide +kernel
theorem dL_get_3 : decode cL_get 3 = .ok (.iload_n 1, 1) := by decide +kernel
theorem dL_get_4 : decode cL_get 4 = .ok (.invokevirtual 35, 3) := by decide +kernel
theorem dL_get_7 : decode cL_get 7 = .ok (.i2l, 1) := by decide +kernel
theorem dL_get_8 : decode cL_get 8 = .ok (.lastore, 1) := by decide +kernel
theorem dL_get_9 : decode cL_get 9 = .ok (.goto 6, 3) := by decide +kernel
theorem dL_get_12 : decode cL_get 12 = .ok (.astore_n 3, 1) := by decide +kernel
theorem dL_get_13 : decode cL_get 13 = .ok (.iconst 1, 1) := by decide +kernel
theorem dL_get_14 : decode cL_get 14 = .ok (.ireturn, 1) := by decide +kernel
theorem dL_get_15 : decode cL_get 15 = .ok (.iconst 0, 1) := by decide +kernel
theorem dL_get_16 : decode cL_get 16 = .ok (.ireturn, 1) := by decide +kernel
theorem dL_poke_0 : decode cL_poke 0 = .ok (.aload_n 3, 1) := by decide +kernel
theorem dL_poke_1 : decode cL_poke 1 = .ok (.iconst 0, 1) := by decide +kernel
theorem dL_poke_2 : decode cL_poke 2 = .ok (.aload_n 0, 1) := by decide +kernel
theorem dL_poke_3 : decode cL_poke 3 = .ok (.iload_n 1, 1) := by decide +kernel
theorem dL_poke_4 : decode cL_poke 4 = .ok (.iload_n 2, 1) := by decide +kernel
theorem dL_poke_5 : decode cL_poke 5 = .ok (.invokevirtual 38, 3) := by decide +kernel
theorem dL_poke_8 : decode cL_poke 8 = .ok (.i2l, 1) := by decide +kernel
theorem dL_poke_9 : decode cL_poke 9 = .ok (.lastore, 1) := by decide +kernel
theorem dL_poke_10 : decode cL_poke 10 = .ok (.goto 7, 3) := by decide +kernel
theorem dL_poke_13 : decode cL_poke 13 = .ok (.astore 4, 2) := by decide +kernel
theorem dL_poke_15 : decode cL_poke 15 = .ok (.iconst 1, 1) := by decide +kernel
theorem dL_poke_16 : decode cL_poke 16 = .ok (.ireturn, 1) := by decide +kernel
theorem dL_poke_17 : decode cL_poke 17 = .ok (.iconst 0, 1) := by decide +kernel
theorem dL_poke_18 : decode cL_poke 18 = .ok (.ireturn, 1) := by decide +kernel
theorem dL_peek_0 : decode cL_peek 0 = .ok (.aload_n 2, 1) := by decide +kernel
theorem dL_peek_1 : decode cL_peek 1 = .ok (.iconst 0, 1) := by decide +kernel
theorem dL_peek_2 : decode cL_peek 2 = .ok (.aload_n 0, 1) := by decide +kernel
theorem dL_peek_3 : decode cL_peek 3 = .ok (.iload_n 1, 1) := by decide +kernel
theorem dL_peek_4 : decode cL_peek 4 = .ok (.invokevirtual 41, 3) := by decide +kernel
theorem dL_peek_7 : decode cL_peek 7 = .ok (.i2l, 1) := by decide +kernel
theorem dL_peek_8 : decode cL_peek 8 = .ok (.lastore, 1) := by decide +kernel
theorem dL_peek_9 : decode cL_peek 9 = .ok (.goto 6, 3) := by decide +kernel
theorem dL_peek_12 : decode cL_peek 12 = .ok (.astore_n 3, 1) := by decide +kernel
theorem dL_peek_13 : decode cL_peek 13 = .ok (.iconst 1, 1) := by decide +kernel
theorem dL_peek_14 : decode cL_peek 14 = .ok (.ireturn, 1) := by decide +kernel
theorem dL_peek_15 : decode cL_peek 15 = .ok (.iconst 0, 1) := by decide +kernel
theorem dL_peek_16 : decode cL_peek 16 = .ok (.ireturn, 1) := by decide +kernel
theorem dL_run_0 : decode cL_run 0 = .ok (.aload_n 2, 1) := by decide +kernel
theorem dL_run_1 : decode cL_run 1 = .ok (.iconst 0, 1) := by decide +kernel
theorem dL_run_2 : decode cL_run 2 = .ok (.aload_n 0, 1) := by decide +kernel
theorem dL_run_3 : decode cL_run 3 = .ok (.iload_n 1, 1) := by decide +kernel
theorem dL_run_4 : decode cL_run 4 = .ok (.invokevirtual 44, 3) := by decide +kernel
theorem dL_run_7 : decode cL_run 7 = .ok (.i2l, 1) := by decide +kernel
theorem dL_run_8 : decode cL_run 8 = .ok (.lastore, 1) := by decide +kernel
theorem dL_run_9 : decode cL_run 9 = .ok (.goto 6, 3) := by decide +kernel
theorem dL_run_12 : decode cL_run 12 = .ok (.astore_n 3, 1) := by decide +kernel
theorem dL_run_13 : decode cL_run 13 = .ok (.iconst 1, 1) := by decide +kernel
theorem dL_run_14 : decode cL_run 14 = .ok (.ireturn, 1) := by decide +kernel
theorem dL_run_15 : decode cL_run 15 = .ok (.iconst 0, 1) := by decide +kernel
theorem dL_run_16 : decode cL_run 16 = .ok (.ireturn, 1) := by decide +kernel
theorem dL_law_0 : decode cL_law 0 = .ok (.new 8, 3) := by decide +kernel
theorem dL_law_3 : decode cL_law 3 = .ok (.dup, 1) := by decide +kernel
theorem dL_law_4 : decode cL_law 4 = .ok (.invokespecial 47, 3) := by decide +kernel
theorem dL_law_7 : decode cL_law 7 = .ok (.astore_n 1, 1) := by decide +kernel
theorem dL_law_8 : decode cL_law 8 = .ok (.new 48, 3) := by decide +kernel
theorem dL_law_11 : decode cL_law 11 = .ok (.dup, 1) := by decide +kernel
theorem dL_law_12 : decode cL_law 12 = .ok (.invokespecial 50, 3) := by decide +kernel
theorem dL_law_15 : decode cL_law 15 = .ok (.astore_n 2, 1) := by decide +kernel
theorem dL_law_16 : decode cL_law 16 = .ok (.iconst 1, 1) := by decide +kernel
theorem dL_law_17 : decode cL_law 17 = .ok (.newarray .long, 2) := by decide +kernel
theorem dL_law_19 : decode cL_law 19 = .ok (.astore_n 3, 1) := by decide +kernel
theorem dL_law_20 : decode cL_law 20 = .ok (.iconst 0, 1) := by decide +kernel
theorem dL_law_21 : decode cL_law 21 = .ok (.istore 4, 2) := by decide +kernel
theorem dL_law_23 : decode cL_law 23 = .ok (.iload 4, 2) := by decide +kernel
theorem dL_law_25 : decode cL_law 25 = .ok (.aload_n 0, 1) := by decide +kernel
theorem dL_law_26 : decode cL_law 26 = .ok (.arraylength, 1) := by decide +kernel
theorem dL_law_27 : decode cL_law 27 = .ok (.iconst 4, 1) := by decide +kernel
theorem dL_law_28 : decode cL_law 28 = .ok (.isub, 1) := by decide +kernel
theorem dL_law_29 : decode cL_law 29 = .ok (.if_icmp .gt 843, 3) := by decide +kernel
theorem dL_law_32 : decode cL_law 32 = .ok (.aload_n 0, 1) := by decide +kernel
theorem dL_law_33 : decode cL_law 33 = .ok (.iload 4, 2) := by decide +kernel
theorem dL_law_35 : decode cL_law 35 = .ok (.iaload, 1) := by decide +kernel
theorem dL_law_36 : decode cL_law 36 = .ok (.bipush 31, 2) := by decide +kernel
theorem dL_law_38 : decode cL_law 38 = .ok (.iand, 1) := by decide +kernel
theorem dL_law_39 : decode cL_law 39 = .ok (.tableswitch 827 0 16 #[81, 181, 194, 254, 267, 280, 293, 349, 417, 485, 553, 609, 677, 733, 744, 800, 813], 81) := by decide +kernel
theorem dL_law_120 : decode cL_law 120 = .ok (.aload_n 1, 1) := by decide +kernel
theorem dL_law_121 : decode cL_law 121 = .ok (.aload_n 0, 1) := by decide +kernel
theorem dL_law_122 : decode cL_law 122 = .ok (.iload 4, 2) := by decide +kernel
theorem dL_law_124 : decode cL_law 124 = .ok (.iconst 1, 1) := by decide +kernel
theorem dL_law_125 : decode cL_law 125 = .ok (.iadd, 1) := by decide +kernel
theorem dL_law_126 : decode cL_law 126 = .ok (.iaload, 1) := by decide +kernel
theorem dL_law_127 : decode cL_law 127 = .ok (.aload_n 0, 1) := by decide +kernel
theorem dL_law_128 : decode cL_law 128 = .ok (.iload 4, 2) := by decide +kernel
theorem dL_law_130 : decode cL_law 130 = .ok (.iconst 2, 1) := by decide +kernel
theorem dL_law_131 : decode cL_law 131 = .ok (.iadd, 1) := by decide +kernel
theorem dL_law_132 : decode cL_law 132 = .ok (.iaload, 1) := by decide +kernel
theorem dL_law_133 : decode cL_law 133 = .ok (.i2l, 1) := by decide +kernel
theorem dL_law_134 : decode cL_law 134 = .ok (.bipush 32, 2) := by decide +kernel
theorem dL_law_136 : decode cL_law 136 = .ok (.lshl, 1) := by decide +kernel
theorem dL_law_137 : decode cL_law 137 = .ok (.aload_n 0, 1) := by decide +kernel
theorem dL_law_138 : decode cL_law 138 = .ok (.iload 4, 2) := by decide +kernel
theorem dL_law_140 : decode cL_law 140 = .ok (.iconst 3, 1) := by decide +kernel
theorem dL_law_141 : decode cL_law 141 = .ok (.iadd, 1) := by decide +kernel
theorem dL_law_142 : decode cL_law 142 = .ok (.iaload, 1) := by decide +kernel
theorem dL_law_143 : decode cL_law 143 = .ok (.i2l, 1) := by decide +kernel
theorem dL_law_144 : decode cL_law 144 = .ok (.ldc2_w 51, 3) := by decide +kernel
theorem dL_law_147 : decode cL_law 147 = .ok (.land, 1) := by decide +kernel
theorem dL_law_148 : decode cL_law 148 = .ok (.lor, 1) := by decide +kernel
theorem dL_law_149 : decode cL_law 149 = .ok (.aload_n 3, 1) := by decide +kernel
theorem dL_law_150 : decode cL_law 150 = .ok (.invokestatic 53, 3) := by decide +kernel
theorem dL_law_153 : decode cL_law 153 = .ok (.istore 5, 2) := by decide +kernel
theorem dL_law_155 : decode cL_law 155 = .ok (.aload_n 2, 1) := by decide +kernel
theorem dL_law_156 : decode cL_law 156 = .ok (.aload_n 0, 1) := by decide +kernel
theorem dL_law_157 : decode cL_law 157 = .ok (.iload 4, 2) := by decide +kernel
theorem dL_law_159 : decode cL_law 159 = .ok (.iconst 1, 1) := by decide +kernel
theorem dL_law_160 : decode cL_law 160 = .ok (.iadd, 1) := by decide +kernel
theorem dL_law_161 : decode cL_law 161 = .ok (.iaload, 1) := by decide +kernel
theorem dL_law_162 : decode cL_law 162 = .ok (.aload_n 0, 1) := by decide +kernel
theorem dL_law_163 : decode cL_law 163 = .ok (.iload 4, 2) := by decide +kernel
theorem dL_law_165 : decode cL_law 165 = .ok (.iconst 2, 1) := by decide +kernel
theorem dL_law_166 : decode cL_law 166 = .ok (.iadd, 1) := by decide +kernel
theorem dL_law_167 : decode cL_law 167 = .ok (.iaload, 1) := by decide +kernel
theorem dL_law_168 : decode cL_law 168 = .ok (.i2l, 1) := by decide +kernel
theorem dL_law_169 : decode cL_law 169 = .ok (.bipush 32, 2) := by decide +kernel
theorem dL_law_171 : decode cL_law 171 = .ok (.lshl, 1) := by decide +kernel
theorem dL_law_172 : decode cL_law 172 = .ok (.aload_n 0, 1) := by decide +kernel
theorem dL_law_173 : decode cL_law 173 = .ok (.iload 4, 2) := by decide +kernel
theorem dL_law_175 : decode cL_law 175 = .ok (.iconst 3, 1) := by decide +kernel
theorem dL_law_176 : decode cL_law 176 = .ok (.iadd, 1) := by decide +kernel
theorem dL_law_177 : decode cL_law 177 = .ok (.iaload, 1) := by decide +kernel
theorem dL_law_178 : decode cL_law 178 = .ok (.i2l, 1) := by decide +kernel
theorem dL_law_179 : decode cL_law 179 = .ok (.ldc2_w 51, 3) := by decide +kernel
theorem dL_law_182 : decode cL_law 182 = .ok (.land, 1) := by decide +kernel
theorem dL_law_183 : decode cL_law 183 = .ok (.lor, 1) := by decide +kernel
theorem dL_law_184 : decode cL_law 184 = .ok (.invokevirtual 58, 3) := by decide +kernel
theorem dL_law_187 : decode cL_law 187 = .ok (.istore 6, 2) := by decide +kernel
theorem dL_law_189 : decode cL_law 189 = .ok (.aload_n 2, 1) := by decide +kernel
theorem dL_law_190 : decode cL_law 190 = .ok (.invokevirtual 59, 3) := by decide +kernel
theorem dL_law_193 : decode cL_law 193 = .ok (.iload 5, 2) := by decide +kernel
theorem dL_law_195 : decode cL_law 195 = .ok (.if_icmp .eq 5, 3) := by decide +kernel
theorem dL_law_198 : decode cL_law 198 = .ok (.iconst 0, 1) := by decide +kernel
theorem dL_law_199 : decode cL_law 199 = .ok (.ireturn, 1) := by decide +kernel
theorem dL_law_200 : decode cL_law 200 = .ok (.iload 5, 2) := by decide +kernel
theorem dL_law_202 : decode cL_law 202 = .ok (.ifCond .ne 15, 3) := by decide +kernel
theorem dL_law_205 : decode cL_law 205 = .ok (.aload_n 3, 1) := by decide +kernel
theorem dL_law_206 : decode cL_law 206 = .ok (.iconst 0, 1) := by decide +kernel
theorem dL_law_207 : decode cL_law 207 = .ok (.laload, 1) := by decide +kernel
theorem dL_law_208 : decode cL_law 208 = .ok (.iload 6, 2) := by decide +kernel
theorem dL_law_210 : decode cL_law 210 = .ok (.i2l, 1) := by decide +kernel
theorem dL_law_211 : decode cL_law 211 = .ok (.lcmp, 1) := by decide +kernel
theorem dL_law_212 : decode cL_law 212 = .ok (.ifCond .eq 5, 3) := by decide +kernel
theorem dL_law_215 : decode cL_law 215 = .ok (.iconst 0, 1) := by decide +kernel
theorem dL_law_216 : decode cL_law 216 = .ok (.ireturn, 1) := by decide +kernel
theorem dL_law_217 : decode cL_law 217 = .ok (.goto 649, 3) := by decide +kernel
theorem dL_law_220 : decode cL_law 220 = .ok (.aload_n 1, 1) := by decide +kernel
theorem dL_law_221 : decode cL_law 221 = .ok (.invokevirtual 63, 3) := by decide +kernel
theorem dL_law_224 : decode cL_law 224 = .ok (.aload_n 2, 1) := by decide +kernel
theorem dL_law_225 : decode cL_law 225 = .ok (.invokevirtual 66, 3) := by decide +kernel
theorem dL_law_228 : decode cL_law 228 = .ok (.if_icmp .eq 638, 3) := by decide +kernel
theorem dL_law_231 : decode cL_law 231 = .ok (.iconst 0, 1) := by decide +kernel
theorem dL_law_232 : decode cL_law 232 = .ok (.ireturn, 1) := by decide +kernel
theorem dL_law_233 : decode cL_law 233 = .ok (.aload_n 1, 1) := by decide +kernel
theorem dL_law_234 : decode cL_law 234 = .ok (.aload_n 0, 1) := by decide +kernel
theorem dL_law_235 : decode cL_law 235 = .ok (.iload 4, 2) := by decide +kernel
theorem dL_law_237 : decode cL_law 237 = .ok (.iconst 1, 1) := by decide +kernel
theorem dL_law_238 : decode cL_law 238 = .ok (.iadd, 1) := by decide +kernel
theorem dL_law_239 : decode cL_law 239 = .ok (.iaload, 1) := by decide +kernel
theorem dL_law_240 : decode cL_law 240 = .ok (.aload_n 0, 1) := by decide +kernel
theorem dL_law_241 : decode cL_law 241 = .ok (.iload 4, 2) := by decide +kernel
theorem dL_law_243 : decode cL_law 243 = .ok (.iconst 2, 1) := by decide +kernel
theorem dL_law_244 : decode cL_law 244 = .ok (.iadd, 1) := by decide +kernel
theorem dL_law_245 : decode cL_law 245 = .ok (.iaload, 1) := by decide +kernel
theorem dL_law_246 : decode cL_law 246 = .ok (.aload_n 0, 1) := by decide +kernel
theorem dL_law_247 : decode cL_law 247 = .ok (.iload 4, 2) := by decide +kernel
theorem dL_law_249 : decode cL_law 249 = .ok (.iconst 3, 1) := by decide +kernel
theorem dL_law_250 : decode cL_law 250 = .ok (.iadd, 1) := by decide +kernel
theorem dL_law_251 : decode cL_law 251 = .ok (.iaload, 1) := by decide +kernel
theorem dL_law_252 : decode cL_law 252 = .ok (.invokestatic 67, 3) := by decide +kernel
theorem dL_law_255 : decode cL_law 255 = .ok (.istore 5, 2) := by decide +kernel
theorem dL_law_257 : decode cL_law 257 = .ok (.aload_n 2, 1) := by decide +kernel
theorem dL_law_258 : decode cL_law 258 = .ok (.aload_n 0, 1) := by decide +kernel
theorem dL_law_259 : decode cL_law 259 = .ok (.iload 4, 2) := by decide +kernel
theorem dL_law_261 : decode cL_law 261 = .ok (.iconst 1, 1) := by decide +kernel
theorem dL_law_262 : decode cL_law 262 = .ok (.iadd, 1) := by decide +kernel
theorem dL_law_263 : decode cL_law 263 = .ok (.iaload, 1) := by decide +kernel
theorem dL_law_264 : decode cL_law 264 = .ok (.aload_n 0, 1) := by decide +kernel
theorem dL_law_265 : decode cL_law 265 = .ok (.iload 4, 2) := by decide +kernel
theorem dL_law_267 : decode cL_law 267 = .ok (.iconst 2, 1) := by decide +kernel
theorem dL_law_268 : decode cL_law 268 = .ok (.iadd, 1) := by decide +kernel
theorem dL_law_269 : decode cL_law 269 = .ok (.iaload, 1) := by decide +kernel
theorem dL_law_270 : decode cL_law 270 = .ok (.aload_n 0, 1) := by decide +kernel
theorem dL_law_271 : decode cL_law 271 = .ok (.iload 4, 2) := by decide +kernel
theorem dL_law_273 : decode cL_law 273 = .ok (.iconst 3, 1) := by decide +kernel
theorem dL_law_274 : decode cL_law 274 = .ok (.iadd, 1) := by decide +kernel
theorem dL_law_275 : decode cL_law 275 = .ok (.iaload, 1) := by decide +kernel
theorem dL_law_276 : decode cL_law 276 = .ok (.invokevirtual 70, 3) := by decide +kernel
theorem dL_law_279 : decode cL_law 279 = .ok (.aload_n 2, 1) := by decide +kernel
theorem dL_law_280 : decode cL_law 280 = .ok (.invokevirtual 59, 3) := by decide +kernel
theorem dL_law_283 : decode cL_law 283 = .ok (.iload 5, 2) := by decide +kernel
theorem dL_law_285 : decode cL_law 285 = .ok (.if_icmp .eq 5, 3) := by decide +kernel
theorem dL_law_288 : decode cL_law 288 = .ok (.iconst 0, 1) := by decide +kernel
theorem dL_law_289 : decode cL_law 289 = .ok (.ireturn, 1) := by decide +kernel
theorem dL_law_290 : decode cL_law 290 = .ok (.goto 576, 3) := by decide +kernel
theorem dL_law_293 : decode cL_law 293 = .ok (.aload_n 1, 1) := by decide +kernel
theorem dL_law_294 : decode cL_law 294 = .ok (.invokevirtual 71, 3) := by decide +kernel
theorem dL_law_297 : decode cL_law 297 = .ok (.aload_n 2, 1) := by decide +kernel
theorem dL_law_298 : decode cL_law 298 = .ok (.invokevirtual 74, 3) := by decide +kernel
theorem dL_law_301 : decode cL_law 301 = .ok (.if_icmp .eq 565, 3) := by decide +kernel
theorem dL_law_304 : decode cL_law 304 = .ok (.iconst 0, 1) := by decide +kernel
theorem dL_law_305 : decode cL_law 305 = .ok (.ireturn, 1) := by decide +kernel
theorem dL_law_306 : decode cL_law 306 = .ok (.aload_n 1, 1) := by decide +kernel
theorem dL_law_307 : decode cL_law 307 = .ok (.invokevirtual 75, 3) := by decide +kernel
theorem dL_law_310 : decode cL_law 310 = .ok (.aload_n 2, 1) := by decide +kernel
theorem dL_law_311 : decode cL_law 311 = .ok (.invokevirtual 78, 3) := by decide +kernel
theorem dL_law_314 : decode cL_law 314 = .ok (.if_icmp .eq 552, 3) := by decide +kernel
theorem dL_law_317 : decode cL_law 317 = .ok (.iconst 0, 1) := by decide +kernel
theorem dL_law_318 : decode cL_law 318 = .ok (.ireturn, 1) := by decide +kernel
theorem dL_law_319 : decode cL_law 319 = .ok (.aload_n 1, 1) := by decide +kernel
theorem dL_law_320 : decode cL_law 320 = .ok (.invokevirtual 79, 3) := by decide +kernel
theorem dL_law_323 : decode cL_law 323 = .ok (.aload_n 2, 1) := by decide +kernel
theorem dL_law_324 : decode cL_law 324 = .ok (.invokevirtual 82, 3) := by decide +kernel
theorem dL_law_327 : decode cL_law 327 = .ok (.if_icmp .eq 539, 3) := by decide +kernel
theorem dL_law_330 : decode cL_law 330 = .ok (.iconst 0, 1) := by decide +kernel
theorem dL_law_331 : decode cL_law 331 = .ok (.ireturn, 1) := by decide +kernel
theorem dL_law_332 : decode cL_law 332 = .ok (.aload_n 1, 1) := by decide +kernel
theorem dL_law_333 : decode cL_law 333 = .ok (.aload_n 0, 1) := by decide +kernel
theorem dL_law_334 : decode cL_law 334 = .ok (.iload 4, 2) := by decide +kernel
theorem dL_law_336 : decode cL_law 336 = .ok (.iconst 1, 1) := by decide +kernel
theorem dL_law_337 : decode cL_law 337 = .ok (.iadd, 1) := by decide +kernel
theorem dL_law_338 : decode cL_law 338 = .ok (.iaload, 1) := by decide +kernel
theorem dL_law_339 : decode cL_law 339 = .ok (.aload_n 3, 1) := by decide +kernel
theorem dL_law_340 : decode cL_law 340 = .ok (.invokestatic 83, 3) := by decide +kernel
theorem dL_law_343 : decode cL_law 343 = .ok (.istore 5, 2) := by decide +kernel
theorem dL_law_345 : decode cL_law 345 = .ok (.aload_n 2, 1) := by decide +kernel
theorem dL_law_346 : decode cL_law 346 = .ok (.aload_n 0, 1) := by decide +kernel
theorem dL_law_347 : decode cL_law 347 = .ok (.iload 4, 2) := by decide +kernel
theorem dL_law_349 : decode cL_law 349 = .ok (.iconst 1, 1) := by decide +kernel
theorem dL_law_350 : decode cL_law 350 = .ok (.iadd, 1) := by decide +kernel
theorem dL_law_351 : decode cL_law 351 = .ok (.iaload, 1) := by decide +kernel
theorem dL_law_352 : decode cL_law 352 = .ok (.invokevirtual 86, 3) := by decide +kernel
theorem dL_law_355 : decode cL_law 355 = .ok (.istore 6, 2) := by decide +kernel
theorem dL_law_357 : decode cL_law 357 = .ok (.aload_n 2, 1) := by decide +kernel
theorem dL_law_358 : decode cL_law 358 = .ok (.invokevirtual 59, 3) := by decide +kernel
theorem dL_law_361 : decode cL_law 361 = .ok (.iload 5, 2) := by decide +kernel
theorem dL_law_363 : decode cL_law 363 = .ok (.if_icmp .eq 5, 3) := by decide +kernel
theorem dL_law_366 : decode cL_law 366 = .ok (.iconst 0, 1) := by decide +kernel
theorem dL_law_367 : decode cL_law 367 = .ok (.ireturn, 1) := by decide +kernel
theorem dL_law_368 : decode cL_law 368 = .ok (.iload 5, 2) := by decide +kernel
theorem dL_law_370 : decode cL_law 370 = .ok (.ifCond .ne 15, 3) := by decide +kernel
theorem dL_law_373 : decode cL_law 373 = .ok (.aload_n 3, 1) := by decide +kernel
theorem dL_law_374 : decode cL_law 374 = .ok (.iconst 0, 1) := by decide +kernel
theorem dL_law_375 : decode cL_law 375 = .ok (.laload, 1) := by decide +kernel
theorem dL_law_376 : decode cL_law 376 = .ok (.iload 6, 2) := by decide +kernel
theorem dL_law_378 : decode cL_law 378 = .ok (.i2l, 1) := by decide +kernel
theorem dL_law_379 : decode cL_law 379 = .ok (.lcmp, 1) := by decide +kernel
theorem dL_law_380 : decode cL_law 380 = .ok (.ifCond .eq 5, 3) := by decide +kernel
theorem dL_law_383 : decode cL_law 383 = .ok (.iconst 0, 1) := by decide +kernel
theorem dL_law_384 : decode cL_law 384 = .ok (.ireturn, 1) := by decide +kernel
theorem dL_law_385 : decode cL_law 385 = .ok (.goto 481, 3) := by decide +kernel
theorem dL_law_388 : decode cL_law 388 = .ok (.aload_n 1, 1) := by decide +kernel
theorem dL_law_389 : decode cL_law 389 = .ok (.aload_n 0, 1) := by decide +kernel
theorem dL_law_390 : decode cL_law 390 = .ok (.iload 4, 2) := by decide +kernel
theorem dL_law_392 : decode cL_law 392 = .ok (.iconst 1, 1) := by decide +kernel
theorem dL_law_393 : decode cL_law 393 = .ok (.iadd, 1) := by decide +kernel
theorem dL_law_394 : decode cL_law 394 = .ok (.iaload, 1) := by decide +kernel
theorem dL_law_395 : decode cL_law 395 = .ok (.aload_n 0, 1) := by decide +kernel
theorem dL_law_396 : decode cL_law 396 = .ok (.iload 4, 2) := by decide +kernel
theorem dL_law_398 : decode cL_law 398 = .ok (.iconst 2, 1) := by decide +kernel
theorem dL_law_399 : decode cL_law 399 = .ok (.iadd, 1) := by decide +kernel
theorem dL_law_400 : decode cL_law 400 = .ok (.iaload, 1) := by decide +kernel
theorem dL_law_401 : decode cL_law 401 = .ok (.aload_n 3, 1) := by decide +kernel
theorem dL_law_402 : decode cL_law 402 = .ok (.invokestatic 87, 3) := by decide +kernel
theorem dL_law_405 : decode cL_law 405 = .ok (.istore 5, 2) := by decide +kernel
theorem dL_law_407 : decode cL_law 407 = .ok (.aload_n 2, 1) := by decide +kernel
theorem dL_law_408 : decode cL_law 408 = .ok (.aload_n 0, 1) := by decide +kernel
theorem dL_law_409 : decode cL_law 409 = .ok (.iload 4, 2) := by decide +kernel
theorem dL_law_411 : decode cL_law 411 = .ok (.iconst 1, 1) := by decide +kernel
theorem dL_law_412 : decode cL_law 412 = .ok (.iadd, 1) := by decide +kernel
theorem dL_law_413 : decode cL_law 413 = .ok (.iaload, 1) := by decide +kernel
theorem dL_law_414 : decode cL_law 414 = .ok (.aload_n 0, 1) := by decide +kernel
theorem dL_law_415 : decode cL_law 415 = .ok (.iload 4, 2) := by decide +kernel
theorem dL_law_417 : decode cL_law 417 = .ok (.iconst 2, 1) := by decide +kernel
theorem dL_law_418 : decode cL_law 418 = .ok (.iadd, 1) := by decide +kernel
theorem dL_law_419 : decode cL_law 419 = .ok (.iaload, 1) := by decide +kernel
theorem dL_law_420 : decode cL_law 420 = .ok (.invokevirtual 90, 3) := by decide +kernel
theorem dL_law_423 : decode cL_law 423 = .ok (.istore 6, 2) := by decide +kernel
theorem dL_law_425 : decode cL_law 425 = .ok (.aload_n 2, 1) := by decide +kernel
theorem dL_law_426 : decode cL_law 426 = .ok (.invokevirtual 59, 3) := by decide +kernel
theorem dL_law_429 : decode cL_law 429 = .ok (.iload 5, 2) := by decide +kernel
theorem dL_law_431 : decode cL_law 431 = .ok (.if_icmp .eq 5, 3) := by decide +kernel
theorem dL_law_434 : decode cL_law 434 = .ok (.iconst 0, 1) := by decide +kernel
theorem dL_law_435 : decode cL_law 435 = .ok (.ireturn, 1) := by decide +kernel
theorem dL_law_436 : decode cL_law 436 = .ok (.iload 5, 2) := by decide +kernel
theorem dL_law_438 : decode cL_law 438 = .ok (.ifCond .ne 15, 3) := by decide +kernel
theorem dL_law_441 : decode cL_law 441 = .ok (.aload_n 3, 1) := by decide +kernel
theorem dL_law_442 : decode cL_law 442 = .ok (.iconst 0, 1) := by decide +kernel
theorem dL_law_443 : decode cL_law 443 = .ok (.laload, 1) := by decide +kernel
theorem dL_law_444 : decode cL_law 444 = .ok (.iload 6, 2) := by decide +kernel
theorem dL_law_446 : decode cL_law 446 = .ok (.i2l, 1) := by decide +kernel
theorem dL_law_447 : decode cL_law 447 = .ok (.lcmp, 1) := by decide +kernel
theorem dL_law_448 : decode cL_law 448 = .ok (.ifCond .eq 5, 3) := by decide +kernel
theorem dL_law_451 : decode cL_law 451 = .ok (.iconst 0, 1) := by decide +kernel
theorem dL_law_452 : decode cL_law 452 = .ok (.ireturn, 1) := by decide +kernel
theorem dL_law_453 : decode cL_law 453 = .ok (.goto 413, 3) := by decide +kernel
theorem dL_law_456 : decode cL_law 456 = .ok (.aload_n 1, 1) := by decide +kernel
theorem dL_law_457 : decode cL_law 457 = .ok (.aload_n 0, 1) := by decide +kernel
theorem dL_law_458 : decode cL_law 458 = .ok (.iload 4, 2) := by decide +kernel
theorem dL_law_460 : decode cL_law 460 = .ok (.iconst 1, 1) := by decide +kernel
theorem dL_law_461 : decode cL_law 461 = .ok (.iadd, 1) := by decide +kernel
theorem dL_law_462 : decode cL_law 462 = .ok (.iaload, 1) := by decide +kernel
theorem dL_law_463 : decode cL_law 463 = .ok (.aload_n 0, 1) := by decide +kernel
theorem dL_law_464 : decode cL_law 464 = .ok (.iload 4, 2) := by decide +kernel
theorem dL_law_466 : decode cL_law 466 = .ok (.iconst 2, 1) := by decide +kernel
theorem dL_law_467 : decode cL_law 467 = .ok (.iadd, 1) := by decide +kernel
theorem dL_law_468 : decode cL_law 468 = .ok (.iaload, 1) := by decide +kernel
theorem dL_law_469 : decode cL_law 469 = .ok (.aload_n 3, 1) := by decide +kernel
theorem dL_law_470 : decode cL_law 470 = .ok (.invokestatic 91, 3) := by decide +kernel
theorem dL_law_473 : decode cL_law 473 = .ok (.istore 5, 2) := by decide +kernel
theorem dL_law_475 : decode cL_law 475 = .ok (.aload_n 2, 1) := by decide +kernel
theorem dL_law_476 : decode cL_law 476 = .ok (.aload_n 0, 1) := by decide +kernel
theorem dL_law_477 : decode cL_law 477 = .ok (.iload 4, 2) := by decide +kernel
theorem dL_law_479 : decode cL_law 479 = .ok (.iconst 1, 1) := by decide +kernel
theorem dL_law_480 : decode cL_law 480 = .ok (.iadd, 1) := by decide +kernel
theorem dL_law_481 : decode cL_law 481 = .ok (.iaload, 1) := by decide +kernel
theorem dL_law_482 : decode cL_law 482 = .ok (.aload_n 0, 1) := by decide +kernel
theorem dL_law_483 : decode cL_law 483 = .ok (.iload 4, 2) := by decide +kernel
theorem dL_law_485 : decode cL_law 485 = .ok (.iconst 2, 1) := by decide +kernel
theorem dL_law_486 : decode cL_law 486 = .ok (.iadd, 1) := by decide +kernel
theorem dL_law_487 : decode cL_law 487 = .ok (.iaload, 1) := by decide +kernel
theorem dL_law_488 : decode cL_law 488 = .ok (.invokevirtual 93, 3) := by decide +kernel
theorem dL_law_491 : decode cL_law 491 = .ok (.istore 6, 2) := by decide +kernel
theorem dL_law_493 : decode cL_law 493 = .ok (.aload_n 2, 1) := by decide +kernel
theorem dL_law_494 : decode cL_law 494 = .ok (.invokevirtual 59, 3) := by decide +kernel
theorem dL_law_497 : decode cL_law 497 = .ok (.iload 5, 2) := by decide +kernel
theorem dL_law_499 : decode cL_law 499 = .ok (.if_icmp .eq 5, 3) := by decide +kernel
theorem dL_law_502 : decode cL_law 502 = .ok (.iconst 0, 1) := by decide +kernel
theorem dL_law_503 : decode cL_law 503 = .ok (.ireturn, 1) := by decide +kernel
theorem dL_law_504 : decode cL_law 504 = .ok (.iload 5, 2) := by decide +kernel
theorem dL_law_506 : decode cL_law 506 = .ok (.ifCond .ne 15, 3) := by decide +kernel
theorem dL_law_509 : decode cL_law 509 = .ok (.aload_n 3, 1) := by decide +kernel
theorem dL_law_510 : decode cL_law 510 = .ok (.iconst 0, 1) := by decide +kernel
theorem dL_law_511 : decode cL_law 511 = .ok (.laload, 1) := by decide +kernel
theorem dL_law_512 : decode cL_law 512 = .ok (.iload 6, 2) := by decide +kernel
theorem dL_law_514 : decode cL_law 514 = .ok (.i2l, 1) := by decide +kernel
theorem dL_law_515 : decode cL_law 515 = .ok (.lcmp, 1) := by decide +kernel
theorem dL_law_516 : decode cL_law 516 = .ok (.ifCond .eq 5, 3) := by decide +kernel
theorem dL_law_519 : decode cL_law 519 = .ok (.iconst 0, 1) := by decide +kernel
theorem dL_law_520 : decode cL_law 520 = .ok (.ireturn, 1) := by decide +kernel
theorem dL_law_521 : decode cL_law 521 = .ok (.goto 345, 3) := by decide +kernel
theorem dL_law_524 : decode cL_law 524 = .ok (.aload_n 1, 1) := by decide +kernel
theorem dL_law_525 : decode cL_law 525 = .ok (.aload_n 0, 1) := by decide +kernel
theorem dL_law_526 : decode cL_law 526 = .ok (.iload 4, 2) := by decide +kernel
theorem dL_law_528 : decode cL_law 528 = .ok (.iconst 1, 1) := by decide +kernel
theorem dL_law_529 : decode cL_law 529 = .ok (.iadd, 1) := by decide +kernel
theorem dL_law_530 : decode cL_law 530 = .ok (.iaload, 1) := by decide +kernel
theorem dL_law_531 : decode cL_law 531 = .ok (.aload_n 0, 1) := by decide +kernel
theorem dL_law_532 : decode cL_law 532 = .ok (.iload 4, 2) := by decide +kernel
theorem dL_law_534 : decode cL_law 534 = .ok (.iconst 2, 1) := by decide +kernel
theorem dL_law_535 : decode cL_law 535 = .ok (.iadd, 1) := by decide +kernel
theorem dL_law_536 : decode cL_law 536 = .ok (.iaload, 1) := by decide +kernel
theorem dL_law_537 : decode cL_law 537 = .ok (.aload_n 3, 1) := by decide +kernel
theorem dL_law_538 : decode cL_law 538 = .ok (.invokestatic 94, 3) := by decide +kernel
theorem dL_law_541 : decode cL_law 541 = .ok (.istore 5, 2) := by decide +kernel
theorem dL_law_543 : decode cL_law 543 = .ok (.aload_n 2, 1) := by decide +kernel
theorem dL_law_544 : decode cL_law 544 = .ok (.aload_n 0, 1) := by decide +kernel
theorem dL_law_545 : decode cL_law 545 = .ok (.iload 4, 2) := by decide +kernel
theorem dL_law_547 : decode cL_law 547 = .ok (.iconst 1, 1) := by decide +kernel
theorem dL_law_548 : decode cL_law 548 = .ok (.iadd, 1) := by decide +kernel
theorem dL_law_549 : decode cL_law 549 = .ok (.iaload, 1) := by decide +kernel
theorem dL_law_550 : decode cL_law 550 = .ok (.aload_n 0, 1) := by decide +kernel
theorem dL_law_551 : decode cL_law 551 = .ok (.iload 4, 2) := by decide +kernel
theorem dL_law_553 : decode cL_law 553 = .ok (.iconst 2, 1) := by decide +kernel
theorem dL_law_554 : decode cL_law 554 = .ok (.iadd, 1) := by decide +kernel
theorem dL_law_555 : decode cL_law 555 = .ok (.iaload, 1) := by decide +kernel
theorem dL_law_556 : decode cL_law 556 = .ok (.invokevirtual 96, 3) := by decide +kernel
theorem dL_law_559 : decode cL_law 559 = .ok (.istore 6, 2) := by decide +kernel
theorem dL_law_561 : decode cL_law 561 = .ok (.aload_n 2, 1) := by decide +kernel
theorem dL_law_562 : decode cL_law 562 = .ok (.invokevirtual 59, 3) := by decide +kernel
theorem dL_law_565 : decode cL_law 565 = .ok (.iload 5, 2) := by decide +kernel
theorem dL_law_567 : decode cL_law 567 = .ok (.if_icmp .eq 5, 3) := by decide +kernel
theorem dL_law_570 : decode cL_law 570 = .ok (.iconst 0, 1) := by decide +kernel
theorem dL_law_571 : decode cL_law 571 = .ok (.ireturn, 1) := by decide +kernel
theorem dL_law_572 : decode cL_law 572 = .ok (.iload 5, 2) := by decide +kernel
theorem dL_law_574 : decode cL_law 574 = .ok (.ifCond .ne 15, 3) := by decide +kernel
theorem dL_law_577 : decode cL_law 577 = .ok (.aload_n 3, 1) := by decide +kernel
theorem dL_law_578 : decode cL_law 578 = .ok (.iconst 0, 1) := by decide +kernel
theorem dL_law_579 : decode cL_law 579 = .ok (.laload, 1) := by decide +kernel
theorem dL_law_580 : decode cL_law 580 = .ok (.iload 6, 2) := by decide +kernel
theorem dL_law_582 : decode cL_law 582 = .ok (.i2l, 1) := by decide +kernel
theorem dL_law_583 : decode cL_law 583 = .ok (.lcmp, 1) := by decide +kernel
theorem dL_law_584 : decode cL_law 584 = .ok (.ifCond .eq 5, 3) := by decide +kernel
theorem dL_law_587 : decode cL_law 587 = .ok (.iconst 0, 1) := by decide +kernel
theorem dL_law_588 : decode cL_law 588 = .ok (.ireturn, 1) := by decide +kernel
theorem dL_law_589 : decode cL_law 589 = .ok (.goto 277, 3) := by decide +kernel
theorem dL_law_592 : decode cL_law 592 = .ok (.aload_n 1, 1) := by decide +kernel
theorem dL_law_593 : decode cL_law 593 = .ok (.aload_n 0, 1) := by decide +kernel
theorem dL_law_594 : decode cL_law 594 = .ok (.iload 4, 2) := by decide +kernel
theorem dL_law_596 : decode cL_law 596 = .ok (.iconst 1, 1) := by decide +kernel
theorem dL_law_597 : decode cL_law 597 = .ok (.iadd, 1) := by decide +kernel
theorem dL_law_598 : decode cL_law 598 = .ok (.iaload, 1) := by decide +kernel
theorem dL_law_599 : decode cL_law 599 = .ok (.aload_n 3, 1) := by decide +kernel
theorem dL_law_600 : decode cL_law 600 = .ok (.invokestatic 97, 3) := by decide +kernel
theorem dL_law_603 : decode cL_law 603 = .ok (.istore 5, 2) := by decide +kernel
theorem dL_law_605 : decode cL_law 605 = .ok (.aload_n 2, 1) := by decide +kernel
theorem dL_law_606 : decode cL_law 606 = .ok (.aload_n 0, 1) := by decide +kernel
theorem dL_law_607 : decode cL_law 607 = .ok (.iload 4, 2) := by decide +kernel
theorem dL_law_609 : decode cL_law 609 = .ok (.iconst 1, 1) := by decide +kernel
theorem dL_law_610 : decode cL_law 610 = .ok (.iadd, 1) := by decide +kernel
theorem dL_law_611 : decode cL_law 611 = .ok (.iaload, 1) := by decide +kernel
theorem dL_law_612 : decode cL_law 612 = .ok (.invokevirtual 99, 3) := by decide +kernel
theorem dL_law_615 : decode cL_law 615 = .ok (.istore 6, 2) := by decide +kernel
theorem dL_law_617 : decode cL_law 617 = .ok (.aload_n 2, 1) := by decide +kernel
theorem dL_law_618 : decode cL_law 618 = .ok (.invokevirtual 59, 3) := by decide +kernel
theorem dL_law_621 : decode cL_law 621 = .ok (.iload 5, 2) := by decide +kernel
theorem dL_law_623 : decode cL_law 623 = .ok (.if_icmp .eq 5, 3) := by decide +kernel
theorem dL_law_626 : decode cL_law 626 = .ok (.iconst 0, 1) := by decide +kernel
theorem dL_law_627 : decode cL_law 627 = .ok (.ireturn, 1) := by decide +kernel
theorem dL_law_628 : decode cL_law 628 = .ok (.iload 5, 2) := by decide +kernel
theorem dL_law_630 : decode cL_law 630 = .ok (.ifCond .ne 15, 3) := by decide +kernel
theorem dL_law_633 : decode cL_law 633 = .ok (.aload_n 3, 1) := by decide +kernel
theorem dL_law_634 : decode cL_law 634 = .ok (.iconst 0, 1) := by decide +kernel
theorem dL_law_635 : decode cL_law 635 = .ok (.laload, 1) := by decide +kernel
theorem dL_law_636 : decode cL_law 636 = .ok (.iload 6, 2) := by decide +kernel
theorem dL_law_638 : decode cL_law 638 = .ok (.i2l, 1) := by decide +kernel
theorem dL_law_639 : decode cL_law 639 = .ok (.lcmp, 1) := by decide +kernel
theorem dL_law_640 : decode cL_law 640 = .ok (.ifCond .eq 5, 3) := by decide +kernel
theorem dL_law_643 : decode cL_law 643 = .ok (.iconst 0, 1) := by decide +kernel
theorem dL_law_644 : decode cL_law 644 = .ok (.ireturn, 1) := by decide +kernel
theorem dL_law_645 : decode cL_law 645 = .ok (.goto 221, 3) := by decide +kernel
theorem dL_law_648 : decode cL_law 648 = .ok (.aload_n 1, 1) := by decide +kernel
theorem dL_law_649 : decode cL_law 649 = .ok (.aload_n 0, 1) := by decide +kernel
theorem dL_law_650 : decode cL_law 650 = .ok (.iload 4, 2) := by decide +kernel
theorem dL_law_652 : decode cL_law 652 = .ok (.iconst 1, 1) := by decide +kernel
theorem dL_law_653 : decode cL_law 653 = .ok (.iadd, 1) := by decide +kernel
theorem dL_law_654 : decode cL_law 654 = .ok (.iaload, 1) := by decide +kernel
theorem dL_law_655 : decode cL_law 655 = .ok (.aload_n 0, 1) := by decide +kernel
theorem dL_law_656 : decode cL_law 656 = .ok (.iload 4, 2) := by decide +kernel
theorem dL_law_658 : decode cL_law 658 = .ok (.iconst 2, 1) := by decide +kernel
theorem dL_law_659 : decode cL_law 659 = .ok (.iadd, 1) := by decide +kernel
theorem dL_law_660 : decode cL_law 660 = .ok (.iaload, 1) := by decide +kernel
theorem dL_law_661 : decode cL_law 661 = .ok (.aload_n 3, 1) := by decide +kernel
theorem dL_law_662 : decode cL_law 662 = .ok (.invokestatic 100, 3) := by decide +kernel
theorem dL_law_665 : decode cL_law 665 = .ok (.istore 5, 2) := by decide +kernel
theorem dL_law_667 : decode cL_law 667 = .ok (.aload_n 2, 1) := by decide +kernel
theorem dL_law_668 : decode cL_law 668 = .ok (.aload_n 0, 1) := by decide +kernel
theorem dL_law_669 : decode cL_law 669 = .ok (.iload 4, 2) := by decide +kernel
theorem dL_law_671 : decode cL_law 671 = .ok (.iconst 1, 1) := by decide +kernel
theorem dL_law_672 : decode cL_law 672 = .ok (.iadd, 1) := by decide +kernel
theorem dL_law_673 : decode cL_law 673 = .ok (.iaload, 1) := by decide +kernel
theorem dL_law_674 : decode cL_law 674 = .ok (.aload_n 0, 1) := by decide +kernel
theorem dL_law_675 : decode cL_law 675 = .ok (.iload 4, 2) := by decide +kernel
theorem dL_law_677 : decode cL_law 677 = .ok (.iconst 2, 1) := by decide +kernel
theorem dL_law_678 : decode cL_law 678 = .ok (.iadd, 1) := by decide +kernel
theorem dL_law_679 : decode cL_law 679 = .ok (.iaload, 1) := by decide +kernel
theorem dL_law_680 : decode cL_law 680 = .ok (.invokevirtual 102, 3) := by decide +kernel
theorem dL_law_683 : decode cL_law 683 = .ok (.istore 6, 2) := by decide +kernel
theorem dL_law_685 : decode cL_law 685 = .ok (.aload_n 2, 1) := by decide +kernel
theorem dL_law_686 : decode cL_law 686 = .ok (.invokevirtual 59, 3) := by decide +kernel
theorem dL_law_689 : decode cL_law 689 = .ok (.iload 5, 2) := by decide +kernel
theorem dL_law_691 : decode cL_law 691 = .ok (.if_icmp .eq 5, 3) := by decide +kernel
theorem dL_law_694 : decode cL_law 694 = .ok (.iconst 0, 1) := by decide +kernel
theorem dL_law_695 : decode cL_law 695 = .ok (.ireturn, 1) := by decide +kernel
theorem dL_law_696 : decode cL_law 696 = .ok (.iload 5, 2) := by decide +kernel
theorem dL_law_698 : decode cL_law 698 = .ok (.ifCond .ne 15, 3) := by decide +kernel
theorem dL_law_701 : decode cL_law 701 = .ok (.aload_n 3, 1) := by decide +kernel
theorem dL_law_702 : decode cL_law 702 = .ok (.iconst 0, 1) := by decide +kernel
theorem dL_law_703 : decode cL_law 703 = .ok (.laload, 1) := by decide +kernel
theorem dL_law_704 : decode cL_law 704 = .ok (.iload 6, 2) := by decide +kernel
theorem dL_law_706 : decode cL_law 706 = .ok (.i2l, 1) := by decide +kernel
theorem dL_law_707 : decode cL_law 707 = .ok (.lcmp, 1) := by decide +kernel
theorem dL_law_708 : decode cL_law 708 = .ok (.ifCond .eq 5, 3) := by decide +kernel
theorem dL_law_711 : decode cL_law 711 = .ok (.iconst 0, 1) := by decide +kernel
theorem dL_law_712 : decode cL_law 712 = .ok (.ireturn, 1) := by decide +kernel
theorem dL_law_713 : decode cL_law 713 = .ok (.goto 153, 3) := by decide +kernel
theorem dL_law_716 : decode cL_law 716 = .ok (.aload_n 1, 1) := by decide +kernel
theorem dL_law_717 : decode cL_law 717 = .ok (.aload_n 0, 1) := by decide +kernel
theorem dL_law_718 : decode cL_law 718 = .ok (.iload 4, 2) := by decide +kernel
theorem dL_law_720 : decode cL_law 720 = .ok (.iconst 1, 1) := by decide +kernel
theorem dL_law_721 : decode cL_law 721 = .ok (.iadd, 1) := by decide +kernel
theorem dL_law_722 : decode cL_law 722 = .ok (.iaload, 1) := by decide +kernel
theorem dL_law_723 : decode cL_law 723 = .ok (.aload_n 3, 1) := by decide +kernel
theorem dL_law_724 : decode cL_law 724 = .ok (.invokestatic 103, 3) := by decide +kernel
theorem dL_law_727 : decode cL_law 727 = .ok (.istore 5, 2) := by decide +kernel
theorem dL_law_729 : decode cL_law 729 = .ok (.aload_n 2, 1) := by decide +kernel
theorem dL_law_730 : decode cL_law 730 = .ok (.aload_n 0, 1) := by decide +kernel
theorem dL_law_731 : decode cL_law 731 = .ok (.iload 4, 2) := by decide +kernel
theorem dL_law_733 : decode cL_law 733 = .ok (.iconst 1, 1) := by decide +kernel
theorem dL_law_734 : decode cL_law 734 = .ok (.iadd, 1) := by decide +kernel
theorem dL_law_735 : decode cL_law 735 = .ok (.iaload, 1) := by decide +kernel
theorem dL_law_736 : decode cL_law 736 = .ok (.invokevirtual 105, 3) := by decide +kernel
theorem dL_law_739 : decode cL_law 739 = .ok (.istore 6, 2) := by decide +kernel
theorem dL_law_741 : decode cL_law 741 = .ok (.aload_n 2, 1) := by decide +kernel
theorem dL_law_742 : decode cL_law 742 = .ok (.invokevirtual 59, 3) := by decide +kernel
theorem dL_law_745 : decode cL_law 745 = .ok (.iload 5, 2) := by decide +kernel
theorem dL_law_747 : decode cL_law 747 = .ok (.if_icmp .eq 5, 3) := by decide +kernel
theorem dL_law_750 : decode cL_law 750 = .ok (.iconst 0, 1) := by decide +kernel
theorem dL_law_751 : decode cL_law 751 = .ok (.ireturn, 1) := by decide +kernel
theorem dL_law_752 : decode cL_law 752 = .ok (.iload 5, 2) := by decide +kernel
theorem dL_law_754 : decode cL_law 754 = .ok (.ifCond .ne 15, 3) := by decide +kernel
theorem dL_law_757 : decode cL_law 757 = .ok (.aload_n 3, 1) := by decide +kernel
theorem dL_law_758 : decode cL_law 758 = .ok (.iconst 0, 1) := by decide +kernel
theorem dL_law_759 : decode cL_law 759 = .ok (.laload, 1) := by decide +kernel
theorem dL_law_760 : decode cL_law 760 = .ok (.iload 6, 2) := by decide +kernel
theorem dL_law_762 : decode cL_law 762 = .ok (.i2l, 1) := by decide +kernel
theorem dL_law_763 : decode cL_law 763 = .ok (.lcmp, 1) := by decide +kernel
theorem dL_law_764 : decode cL_law 764 = .ok (.ifCond .eq 5, 3) := by decide +kernel
theorem dL_law_767 : decode cL_law 767 = .ok (.iconst 0, 1) := by decide +kernel
theorem dL_law_768 : decode cL_law 768 = .ok (.ireturn, 1) := by decide +kernel
theorem dL_law_769 : decode cL_law 769 = .ok (.goto 97, 3) := by decide +kernel
theorem dL_law_772 : decode cL_law 772 = .ok (.aload_n 1, 1) := by decide +kernel
theorem dL_law_773 : decode cL_law 773 = .ok (.invokevirtual 106, 3) := by decide +kernel
theorem dL_law_776 : decode cL_law 776 = .ok (.aload_n 2, 1) := by decide +kernel
theorem dL_law_777 : decode cL_law 777 = .ok (.invokevirtual 109, 3) := by decide +kernel
theorem dL_law_780 : decode cL_law 780 = .ok (.goto 86, 3) := by decide +kernel
theorem dL_law_783 : decode cL_law 783 = .ok (.aload_n 1, 1) := by decide +kernel
theorem dL_law_784 : decode cL_law 784 = .ok (.aload_n 0, 1) := by decide +kernel
theorem dL_law_785 : decode cL_law 785 = .ok (.iload 4, 2) := by decide +kernel
theorem dL_law_787 : decode cL_law 787 = .ok (.iconst 1, 1) := by decide +kernel
theorem dL_law_788 : decode cL_law 788 = .ok (.iadd, 1) := by decide +kernel
theorem dL_law_789 : decode cL_law 789 = .ok (.iaload, 1) := by decide +kernel
theorem dL_law_790 : decode cL_law 790 = .ok (.aload_n 3, 1) := by decide +kernel
theorem dL_law_791 : decode cL_law 791 = .ok (.invokestatic 110, 3) := by decide +kernel
theorem dL_law_794 : decode cL_law 794 = .ok (.istore 5, 2) := by decide +kernel
theorem dL_law_796 : decode cL_law 796 = .ok (.aload_n 2, 1) := by decide +kernel
theorem dL_law_797 : decode cL_law 797 = .ok (.aload_n 0, 1) := by decide +kernel
theorem dL_law_798 : decode cL_law 798 = .ok (.iload 4, 2) := by decide +kernel
theorem dL_law_800 : decode cL_law 800 = .ok (.iconst 1, 1) := by decide +kernel
theorem dL_law_801 : decode cL_law 801 = .ok (.iadd, 1) := by decide +kernel
theorem dL_law_802 : decode cL_law 802 = .ok (.iaload, 1) := by decide +kernel
theorem dL_law_803 : decode cL_law 803 = .ok (.invokevirtual 112, 3) := by decide +kernel
theorem dL_law_806 : decode cL_law 806 = .ok (.istore 6, 2) := by decide +kernel
theorem dL_law_808 : decode cL_law 808 = .ok (.aload_n 2, 1) := by decide +kernel
theorem dL_law_809 : decode cL_law 809 = .ok (.invokevirtual 59, 3) := by decide +kernel
theorem dL_law_812 : decode cL_law 812 = .ok (.iload 5, 2) := by decide +kernel
theorem dL_law_814 : decode cL_law 814 = .ok (.if_icmp .eq 5, 3) := by decide +kernel
theorem dL_law_817 : decode cL_law 817 = .ok (.iconst 0, 1) := by decide +kernel
theorem dL_law_818 : decode cL_law 818 = .ok (.ireturn, 1) := by decide +kernel
theorem dL_law_819 : decode cL_law 819 = .ok (.iload 5, 2) := by decide +kernel
theorem dL_law_821 : decode cL_law 821 = .ok (.ifCond .ne 15, 3) := by decide +kernel
theorem dL_law_824 : decode cL_law 824 = .ok (.aload_n 3, 1) := by decide +kernel
theorem dL_law_825 : decode cL_law 825 = .ok (.iconst 0, 1) := by decide +kernel
theorem dL_law_826 : decode cL_law 826 = .ok (.laload, 1) := by decide +kernel
theorem dL_law_827 : decode cL_law 827 = .ok (.iload 6, 2) := by decide +kernel
theorem dL_law_829 : decode cL_law 829 = .ok (.i2l, 1) := by decide +kernel
theorem dL_law_830 : decode cL_law 830 = .ok (.lcmp, 1) := by decide +kernel
theorem dL_law_831 : decode cL_law 831 = .ok (.ifCond .eq 5, 3) := by decide +kernel
theorem dL_law_834 : decode cL_law 834 = .ok (.iconst 0, 1) := by decide +kernel
theorem dL_law_835 : decode cL_law 835 = .ok (.ireturn, 1) := by decide +kernel
theorem dL_law_836 : decode cL_law 836 = .ok (.goto 30, 3) := by decide +kernel
theorem dL_law_839 : decode cL_law 839 = .ok (.aload_n 1, 1) := by decide +kernel
theorem dL_law_840 : decode cL_law 840 = .ok (.invokevirtual 113, 3) := by decide +kernel
theorem dL_law_843 : decode cL_law 843 = .ok (.aload_n 2, 1) := by decide +kernel
theorem dL_law_844 : decode cL_law 844 = .ok (.invokevirtual 116, 3) := by decide +kernel
theorem dL_law_847 : decode cL_law 847 = .ok (.if_icmp .eq 19, 3) := by decide +kernel
theorem dL_law_850 : decode cL_law 850 = .ok (.iconst 0, 1) := by decide +kernel
theorem dL_law_851 : decode cL_law 851 = .ok (.ireturn, 1) := by decide +kernel
theorem dL_law_852 : decode cL_law 852 = .ok (.aload_n 1, 1) := by decide +kernel
theorem dL_law_853 : decode cL_law 853 = .ok (.invokevirtual 117, 3) := by decide +kernel
theorem dL_law_856 : decode cL_law 856 = .ok (.aload_n 2, 1) := by decide +kernel
theorem dL_law_857 : decode cL_law 857 = .ok (.invokevirtual 121, 3) := by decide +kernel
theorem dL_law_860 : decode cL_law 860 = .ok (.lcmp, 1) := by decide +kernel
theorem dL_law_861 : decode cL_law 861 = .ok (.ifCond .eq 5, 3) := by decide +kernel
theorem dL_law_864 : decode cL_law 864 = .ok (.iconst 0, 1) := by decide +kernel
theorem dL_law_865 : decode cL_law 865 = .ok (.ireturn, 1) := by decide +kernel
theorem dL_law_866 : decode cL_law 866 = .ok (.iinc 4 4, 3) := by decide +kernel
theorem dL_law_869 : decode cL_law 869 = .ok (.goto (-846), 3) := by decide +kernel
theorem dL_law_872 : decode cL_law 872 = .ok (.iconst 1, 1) := by decide +kernel
theorem dL_law_873 : decode cL_law 873 = .ok (.ireturn, 1) := by decide +kernel
end
section
theorem dX11_init_0 : decode cX11_init 0 = .ok (.aload_n 0, 1) := by decide +kernel
theorem dX11_init_1 : decode cX11_init 1 = .ok (.invokespecial 1, 3) := by decide +kernel
theorem dX11_init_4 : decode cX11_init 4 = .ok (.aload_n 0, 1) := by decide +kernel
theorem dX11_init_5 : decode cX11_init 5 = .ok (.sipush 700, 3) := by decide +kernel
theorem dX11_init_8 : decode cX11_init 8 = .ok (.newarray .int, 2) := by decide +kernel
theorem dX11_init_10 : decode cX11_init 10 = .ok (.putfield 7, 3) := by decide +kernel
theorem dX11_init_13 : decode cX11_init 13 = .ok (.aload_n 0, 1) := by decide +kernel
theorem dX11_init_14 : decode cX11_init 14 = .ok (.iconst (-1), 1) := by decide +kernel
theorem dX11_init_15 : decode cX11_init 15 = .ok (.putfield 13, 3) := by decide +kernel
theorem dX11_init_18 : decode cX11_init 18 = .ok (.aload_n 0, 1) := by decide +kernel
theorem dX11_init_19 : decode cX11_init 19 = .ok (.sipush 200, 3) := by decide +kernel
theorem dX11_init_22 : decode cX11_init 22 = .ok (.newarray .int, 2) := by decide +kernel
theorem dX11_init_24 : decode cX11_init 24 = .ok (.putfield 17, 3) := by decide +kernel
theorem dX11_init_27 : decode cX11_init 27 = .ok (.aload_n 0, 1) := by decide +kernel
theorem dX11_init_28 : decode cX11_init 28 = .ok (.sipush 400, 3) := by decide +kernel
theorem dX11_init_31 : decode cX11_init 31 = .ok (.newarray .int, 2) := by decide +kernel
theorem dX11_init_33 : decode cX11_init 33 = .ok (.putfield 20, 3) := by decide +kernel
theorem dX11_init_36 : decode cX11_init 36 = .ok (.aload_n 0, 1) := by decide +kernel
theorem dX11_init_37 : decode cX11_init 37 = .ok (.sipush 400, 3) := by decide +kernel
theorem dX11_init_40 : decode cX11_init 40 = .ok (.newarray .int, 2) := by decide +kernel
theorem dX11_init_42 : decode cX11_init 42 = .ok (.putfield 23, 3) := by decide +kernel
theorem dX11_init_45 : decode cX11_init 45 = .ok (.aload_n 0, 1) := by decide +kernel
theorem dX11_init_46 : decode cX11_init 46 = .ok (.sipush 200, 3) := by decide +kernel
theorem dX11_init_49 : decode cX11_init 49 = .ok (.newarray .int, 2) := by decide +kernel
theorem dX11_init_51 : decode cX11_init 51 = .ok (.putfield 26, 3) := by decide +kernel
theorem dX11_init_54 : decode cX11_init 54 = .ok (.aload_n 0, 1) := by decide +kernel
theorem dX11_init_55 : decode cX11_init 55 = .ok (.sipush 200, 3) := by decide +kernel
theorem dX11_init_58 : decode cX11_init 58 = .ok (.newarray .int, 2) := by decide +kernel
theorem dX11_init_60 : decode cX11_init 60 = .ok (.putfield 29, 3) := by decide +kernel
theorem dX11_init_63 : decode cX11_init 63 = .ok (.aload_n 0, 1) := by decide +kernel
theorem dX11_init_64 : decode cX11_init 64 = .ok (.sipush 800, 3) := by decide +kernel
theorem dX11_init_67 : decode cX11_init 67 = .ok (.newarray .int, 2) := by decide +kernel
theorem dX11_init_69 : decode cX11_init 69 = .ok (.putfield 32, 3) := by decide +kernel
theorem dX11_init_72 : decode cX11_init 72 = .ok (.aload_n 0, 1) := by decide +kernel
theorem dX11_init_73 : decode cX11_init 73 = .ok (.sipush 800, 3) := by decide +kernel
theorem dX11_init_76 : decode cX11_init 76 = .ok (.newarray .int, 2) := by decide +kernel
theorem dX11_init_78 : decode cX11_init 78 = .ok (.putfield 35, 3) := by decide +kernel
theorem dX11_init_81 : decode cX11_init 81 = .ok (.aload_n 0, 1) := by decide +kernel
theorem dX11_init_82 : decode cX11_init 82 = .ok (.sipush 800, 3) := by decide +kernel
theorem dX11_init_85 : decode cX11_init 85 = .ok (.newarray .int, 2) := by decide +kernel
theorem dX11_init_87 : decode cX11_init 87 = .ok (.putfield 38, 3) := by decide +kernel
theorem dX11_init_90 : decode cX11_init 90 = .ok (.aload_n 0, 1) := by decide +kernel
theorem dX11_init_91 : decode cX11_init 91 = .ok (.sipush 800, 3) := by decide +kernel
theorem dX11_init_94 : decode cX11_init 94 = .ok (.newarray .int, 2) := by decide +kernel
theorem dX11_init_96 : decode cX11_init 96 = .ok (.putfield 41, 3) := by decide +kernel
theorem dX11_init_99 : decode cX11_init 99 = .ok (.aload_n 0, 1) := by decide +kernel
theorem dX11_init_100 : decode cX11_init 100 = .ok (.sipush 800, 3) := by decide +kernel
theorem dX11_init_103 : decode cX11_init 103 = .ok (.newarray .boolean, 2) := by decide +kernel
theorem dX11_init_105 : decode cX11_init 105 = .ok (.putfield 44, 3) := by decide +kernel
theorem dX11_init_108 : decode cX11_init 108 = .ok (.aload_n 0, 1) := by decide +kernel
theorem dX11_init_109 : decode cX11_init 109 = .ok (.sipush 1600, 3) := by decide +kernel
theorem dX11_init_112 : decode cX11_init 112 = .ok (.newarray .int, 2) := by decide +kernel
theorem dX11_init_114 : decode cX11_init 114 = .ok (.putfield 48, 3) := by decide +kernel
theorem dX11_init_117 : decode cX11_init 117 = .ok (.aload_n 0, 1) := by decide +kernel
theorem dX11_init_118 : decode cX11_init 118 = .ok (.sipush 200, 3) := by decide +kernel
theorem dX11_init_121 : decode cX11_init 121 = .ok (.newarray .int, 2) := by decide +kernel
theorem dX11_init_123 : decode cX11_init 123 = .ok (.putfield 51, 3) := by decide +kernel
theorem dX11_init_126 : decode cX11_init 126 = .ok (.aload_n 0, 1) := by decide +kernel
theorem dX11_init_127 : decode cX11_init 127 = .ok (.sipush 400, 3) := by decide +kernel
theorem dX11_init_130 : decode cX11_init 130 = .ok (.newarray .int, 2) := by decide +kernel
theorem dX11_init_132 : decode cX11_init 132 = .ok (.putfield 54, 3) := by decide +kernel
theorem dX11_init_135 : decode cX11_init 135 = .ok (.aload_n 0, 1) := by decide +kernel
theorem dX11_init_136 : decode cX11_init 136 = .ok (.sipush 400, 3) := by decide +kernel
theorem dX11_init_139 : decode cX11_init 139 = .ok (.newarray .int, 2) := by decide +kernel
theorem dX11_init_141 : decode cX11_init 141 = .ok (.putfield 57, 3) := by decide +kernel
theorem dX11_init_144 : decode cX11_init 144 = .ok (.aload_n 0, 1) := by decide +kernel
theorem dX11_init_145 : decode cX11_init 145 = .ok (.sipush 200, 3) := by decide +kernel
theorem dX11_init_148 : decode cX11_init 148 = .ok (.newarray .int, 2) := by decide +kernel
theorem dX11_init_150 : decode cX11_init 150 = .ok (.putfield 60, 3) := by decide +kernel
theorem dX11_init_153 : decode cX11_init 153 = .ok (.aload_n 0, 1) := by decide +kernel
theorem dX11_init_154 : decode cX11_init 154 = .ok (.sipush 200, 3) := by decide +kernel
theorem dX11_init_157 : decode cX11_init 157 = .ok (.newarray .int, 2) := by decide +kernel
theorem dX11_init_159 : decode cX11_init 159 = .ok (.putfield 63, 3) := by decide +kernel
theorem dX11_init_162 : decode cX11_init 162 = .ok (.aload_n 0, 1) := by decide +kernel
theorem dX11_init_163 : decode cX11_init 163 = .ok (.sipush 800, 3) := by decide +kernel
theorem dX11_init_166 : decode cX11_init 166 = .ok (.newarray .int, 2) := by decide +kernel
theorem dX11_init_168 : decode cX11_init 168 = .ok (.putfield 66, 3) := by decide +kernel
theorem dX11_init_171 : decode cX11_init 171 = .ok (.aload_n 0, 1) := by decide +kernel
theorem dX11_init_172 : decode cX11_init 172 = .ok (.sipush 800, 3) := by decide +kernel
theorem dX11_init_175 : decode cX11_init 175 = .ok (.newarray .int, 2) := by decide +kernel
theorem dX11_init_177 : decode cX11_init 177 = .ok (.putfield 69, 3) := by decide +kernel
theorem dX11_init_180 : decode cX11_init 180 = .ok (.aload_n 0, 1) := by decide +kernel
theorem dX11_init_181 : decode cX11_init 181 = .ok (.sipush 800, 3) := by decide +kernel
theorem dX11_init_184 : decode cX11_init 184 = .ok (.newarray .int, 2) := by decide +kernel
theorem dX11_init_186 : decode cX11_init 186 = .ok (.putfield 72, 3) := by decide +kernel
theorem dX11_init_189 : decode cX11_init 189 = .ok (.aload_n 0, 1) := by decide +kernel
theorem dX11_init_190 : decode cX11_init 190 = .ok (.sipush 800, 3) := by decide +kernel
theorem dX11_init_193 : decode cX11_init 193 = .ok (.newarray .int, 2) := by decide +kernel
theorem dX11_init_195 : decode cX11_init 195 = .ok (.putfield 75, 3) := by decide +kernel
theorem dX11_init_198 : decode cX11_init 198 = .ok (.aload_n 0, 1) := by decide +kernel
theorem dX11_init_199 : decode cX11_init 199 = .ok (.sipush 800, 3) := by decide +kernel
theorem dX11_init_202 : decode cX11_init 202 = .ok (.newarray .boolean, 2) := by decide +kernel
theorem dX11_init_204 : decode cX11_init 204 = .ok (.putfield 78, 3) := by decide +kernel
theorem dX11_init_207 : decode cX11_init 207 = .ok (.aload_n 0, 1) := by decide +kernel
theorem dX11_init_208 : decode cX11_init 208 = .ok (.iconst 3, 1) := by decide +kernel
theorem dX11_init_209 : decode cX11_init 209 = .ok (.newarray .int, 2) := by decide +kernel
theorem dX11_init_211 : decode cX11_init 211 = .ok (.dup, 1) := by decide +kernel
theorem dX11_init_212 : decode cX11_init 212 = .ok (.iconst 0, 1) := by decide +kernel
theorem dX11_init_213 : decode cX11_init 213 = .ok (.iconst 1, 1) := by decide +kernel
theorem dX11_init_214 : decode cX11_init 214 = .ok (.iastore, 1) := by decide +kernel
theorem dX11_init_215 : decode cX11_init 215 = .ok (.dup, 1) := by decide +kernel
theorem dX11_init_216 : decode cX11_init 216 = .ok (.iconst 1, 1) := by decide +kernel
theorem dX11_init_217 : decode cX11_init 217 = .ok (.iconst 1, 1) := by decide +kernel
theorem dX11_init_218 : decode cX11_init 218 = .ok (.iastore, 1) := by decide +kernel
theorem dX11_init_219 : decode cX11_init 219 = .ok (.dup, 1) := by decide +kernel
theorem dX11_init_220 : decode cX11_init 220 = .ok (.iconst 2, 1) := by decide +kernel
theorem dX11_init_221 : decode cX11_init 221 = .ok (.iconst 1, 1) := by decide +kernel
theorem dX11_init_222 : decode cX11_init 222 = .ok (.iastore, 1) := by decide +kernel
theorem dX11_init_223 : decode cX11_init 223 = .ok (.putfield 81, 3) := by decide +kernel
theorem dX11_init_226 : decode cX11_init 226 = .ok (.aload_n 0, 1) := by decide +kernel
theorem dX11_init_227 : decode cX11_init 227 = .ok (.iconst 4, 1) := by decide +kernel
theorem dX11_init_228 : decode cX11_init 228 = .ok (.newarray .int, 2) := by decide +kernel
theorem dX11_init_230 : decode cX11_init 230 = .ok (.dup, 1) := by decide +kernel
theorem dX11_init_231 : decode cX11_init 231 = .ok (.iconst 0, 1) := by decide +kernel
theorem dX11_init_232 : decode cX11_init 232 = .ok (.iconst 1, 1) := by decide +kernel
theorem dX11_init_233 : decode cX11_init 233 = .ok (.iastore, 1) := by decide +kernel
theorem dX11_init_234 : decode cX11_init 234 = .ok (.dup, 1) := by decide +kernel
theorem dX11_init_235 : decode cX11_init 235 = .ok (.iconst 1, 1) := by decide +kernel
theorem dX11_init_236 : decode cX11_init 236 = .ok (.iconst 1, 1) := by decide +kernel
theorem dX11_init_237 : decode cX11_init 237 = .ok (.iastore, 1) := by decide +kernel
theorem dX11_init_238 : decode cX11_init 238 = .ok (.dup, 1) := by decide +kernel
theorem dX11_init_239 : decode cX11_init 239 = .ok (.iconst 2, 1) := by decide +kernel
theorem dX11_init_240 : decode cX11_init 240 = .ok (.iconst 1, 1) := by decide +kernel
theorem dX11_init_241 : decode cX11_init 241 = .ok (.iastore, 1) := by decide +kernel
theorem dX11_init_242 : decode cX11_init 242 = .ok (.dup, 1) := by decide +kernel
theorem dX11_init_243 : decode cX11_init 243 = .ok (.iconst 3, 1) := by decide +kernel
theorem dX11_init_244 : decode cX11_init 244 = .ok (.iconst 1, 1) := by decide +kernel
theorem dX11_init_245 : decode cX11_init 245 = .ok (.iastore, 1) := by decide +kernel
theorem dX11_init_246 : decode cX11_init 246 = .ok (.putfield 84, 3) := by decide +kernel
theorem dX11_init_249 : decode cX11_init 249 = .ok (.aload_n 0, 1) := by decide +kernel
theorem dX11_init_250 : decode cX11_init 250 = .ok (.sipush 200, 3) := by decide +kernel
theorem dX11_init_253 : decode cX11_init 253 = .ok (.newarray .int, 2) := by decide +kernel
theorem dX11_init_255 : decode cX11_init 255 = .ok (.putfield 87, 3) := by decide +kernel
theorem dX11_init_258 : decode cX11_init 258 = .ok (.aload_n 0, 1) := by decide +kernel
theorem dX11_init_259 : decode cX11_init 259 = .ok (.sipush 200, 3) := by decide +kernel
theorem dX11_init_262 : decode cX11_init 262 = .ok (.newarray .int, 2) := by decide +kernel
theorem dX11_init_264 : decode cX11_init 264 = .ok (.putfield 90, 3) := by decide +kernel
theorem dX11_init_267 : decode cX11_init 267 = .ok (.aload_n 0, 1) := by decide +kernel
theorem dX11_init_268 : decode cX11_init 268 = .ok (.sipush 200, 3) := by decide +kernel
theorem dX11_init_271 : decode cX11_init 271 = .ok (.newarray .int, 2) := by decide +kernel
theorem dX11_init_273 : decode cX11_init 273 = .ok (.putfield 93, 3) := by decide +kernel
theorem dX11_init_276 : decode cX11_init 276 = .ok (.aload_n 0, 1) := by decide +kernel
theorem dX11_init_277 : decode cX11_init 277 = .ok (.sipush 200, 3) := by decide +kernel
theorem dX11_init_280 : decode cX11_init 280 = .ok (.newarray .int, 2) := by decide +kernel
theorem dX11_init_282 : decode cX11_init 282 = .ok (.putfield 96, 3) := by decide +kernel
theorem dX11_init_285 : decode cX11_init 285 = .ok (.aload_n 0, 1) := by decide +kernel
theorem dX11_init_286 : decode cX11_init 286 = .ok (.sipush 800, 3) := by decide +kernel
theorem dX11_init_289 : decode cX11_init 289 = .ok (.newarray .int, 2) := by decide +kernel
theorem dX11_init_291 : decode cX11_init 291 = .ok (.putfield 99, 3) := by decide +kernel
theorem dX11_init_294 : decode cX11_init 294 = .ok (.aload_n 0, 1) := by decide +kernel
theorem dX11_init_295 : decode cX11_init 295 = .ok (.bipush 8, 2) := by decide +kernel
theorem dX11_init_297 : decode cX11_init 297 = .ok (.newarray .int, 2) := by decide +kernel
theorem dX11_init_299 : decode cX11_init 299 = .ok (.putfield 102, 3) := by decide +kernel
theorem dX11_init_302 : decode cX11_init 302 = .ok (.aload_n 0, 1) := by decide +kernel
theorem dX11_init_303 : decode cX11_init 303 = .ok (.bipush 16, 2) := by decide +kernel
theorem dX11_init_305 : decode cX11_init 305 = .ok (.newarray .int, 2) := by decide +kernel
theorem dX11_init_307 : decode cX11_init 307 = .ok (.putfield 105, 3) := by decide +kernel
theorem dX11_init_310 : decode cX11_init 310 = .ok (.aload_n 0, 1) := by decide +kernel
theorem dX11_init_311 : decode cX11_init 311 = .ok (.sipush 200, 3) := by decide +kernel
theorem dX11_init_314 : decode cX11_init 314 = .ok (.newarray .int, 2) := by decide +kernel
theorem dX11_init_316 : decode cX11_init 316 = .ok (.putfield 108, 3) := by decide +kernel
theorem dX11_init_319 : decode cX11_init 319 = .ok (.aload_n 0, 1) := by decide +kernel
theorem dX11_init_320 : decode cX11_init 320 = .ok (.sipush 200, 3) := by decide +kernel
theorem dX11_init_323 : decode cX11_init 323 = .ok (.newarray .int, 2) := by decide +kernel
theorem dX11_init_325 : decode cX11_init 325 = .ok (.putfield 111, 3) := by decide +kernel
theorem dX11_init_328 : decode cX11_init 328 = .ok (.aload_n 0, 1) := by decide +kernel
theorem dX11_init_329 : decode cX11_init 329 = .ok (.invokevirtual 114, 3) := by decide +kernel
theorem dX11_init_332 : decode cX11_init 332 = .ok (.return_, 1) := by decide +kernel
theorem dX11_thrown_0 : decode cX11_thrown 0 = .ok (.aload_n 0, 1) := by decide +kernel
theorem dX11_thrown_1 : decode cX11_thrown 1 = .ok (.getfield 117, 3) := by decide +kernel
theorem dX11_thrown_4 : decode cX11_thrown 4 = .ok (.ireturn, 1) := by decide +kernel
theorem dX11_feed_0 : decode cX11_feed 0 = .ok (.aload_n 0, 1) := by decide +kernel
theorem dX11_feed_1 : decode cX11_feed 1 = .ok (.iload_n 1, 1) := by decide +kernel
theorem dX11_feed_2 : decode cX11_feed 2 = .ok (.iconst 1, 1) := by decide +kernel
theorem dX11_feed_3 : decode cX11_feed 3 = .ok (.if_icmp .lt 9, 3) := by decide +kernel
theorem dX11_feed_6 : decode cX11_feed 6 = .ok (.iload_n 1, 1) := by decide +kernel
theorem dX11_feed_7 : decode cX11_feed 7 = .ok (.bipush 8, 2) := by decide +kernel
theorem dX11_feed_9 : decode cX11_feed 9 = .ok (.if_icmp .le 7, 3) := by decide +kernel
theorem dX11_feed_12 : decode cX11_feed 12 = .ok (.iconst 1, 1) := by decide +kernel
theorem dX11_feed_13 : decode cX11_feed 13 = .ok (.goto 4, 3) := by decide +kernel
theorem dX11_feed_16 : decode cX11_feed 16 = .ok (.iconst 0, 1) := by decide +kernel
theorem dX11_feed_17 : decode cX11_feed 17 = .ok (.putfield 117, 3) := by decide +kernel
theorem dX11_feed_20 : decode cX11_feed 20 = .ok (.aload_n 0, 1) := by decide +kernel
theorem dX11_feed_21 : decode cX11_feed 21 = .ok (.getfield 117, 3) := by decide +kernel
theorem dX11_feed_24 : decode cX11_feed 24 = .ok (.ifCond .le 5, 3) := by decide +kernel
theorem dX11_feed_27 : decode cX11_feed 27 = .ok (.iconst 0, 1) := by decide +kernel
theorem dX11_feed_28 : decode cX11_feed 28 = .ok (.ireturn, 1) := by decide +kernel
theorem dX11_feed_29 : decode cX11_feed 29 = .ok (.aload_n 0, 1) := by decide +kernel
theorem dX11_feed_30 : decode cX11_feed 30 = .ok (.getfield 120, 3) := by decide +kernel
theorem dX11_feed_33 : decode cX11_feed 33 = .ok (.iload_n 1, 1) := by decide +kernel
theorem dX11_feed_34 : decode cX11_feed 34 = .ok (.iadd, 1) := by decide +kernel
theorem dX11_feed_35 : decode cX11_feed 35 = .ok (.sipush 700, 3) := by decide +kernel
theorem dX11_feed_38 : decode cX11_feed 38 = .ok (.if_icmp .le 5, 3) := by decide +kernel
theorem dX11_feed_41 : decode cX11_feed 41 = .ok (.iconst (-1), 1) := by decide +kernel
theorem dX11_feed_42 : decode cX11_feed 42 = .ok (.ireturn, 1) := by decide +kernel
theorem dX11_feed_43 : decode cX11_feed 43 = .ok (.iconst 0, 1) := by decide +kernel
theorem dX11_feed_44 : decode cX11_feed 44 = .ok (.istore 4, 2) := by decide +kernel
theorem dX11_feed_46 : decode cX11_feed 46 = .ok (.iload 4, 2) := by decide +kernel
theorem dX11_feed_48 : decode cX11_feed 48 = .ok (.iload_n 1, 1) := by decide +kernel
theorem dX11_feed_49 : decode cX11_feed 49 = .ok (.if_icmp .ge 40, 3) := by decide +kernel
theorem dX11_feed_52 : decode cX11_feed 52 = .ok (.aload_n 0, 1) := by decide +kernel
theorem dX11_feed_53 : decode cX11_feed 53 = .ok (.getfield 7, 3) := by decide +kernel
theorem dX11_feed_56 : decode cX11_feed 56 = .ok (.aload_n 0, 1) := by decide +kernel
theorem dX11_feed_57 : decode cX11_feed 57 = .ok (.getfield 120, 3) := by decide +kernel
theorem dX11_feed_60 : decode cX11_feed 60 = .ok (.lload_n 2, 1) := by decide +kernel
theorem dX11_feed_61 : decode cX11_feed 61 = .ok (.bipush 8, 2) := by decide +kernel
theorem dX11_feed_63 : decode cX11_feed 63 = .ok (.iload 4, 2) := by decide +kernel
theorem dX11_feed_65 : decode cX11_feed 65 = .ok (.imul, 1) := by decide +kernel
theorem dX11_feed_66 : decode cX11_feed 66 = .ok (.lshr, 1) := by decide +kernel
theorem dX11_feed_67 : decode cX11_feed 67 = .ok (.ldc2_w 123, 3) := by decide +kernel
theorem dX11_feed_70 : decode cX11_feed 70 = .ok (.land, 1) := by decide +kernel
theorem dX11_feed_71 : decode cX11_feed 71 = .ok (.l2i, 1) := by decide +kernel
theorem dX11_feed_72 : decode cX11_feed 72 = .ok (.iastore, 1) := by decide +kernel
theorem dX11_feed_73 : decode cX11_feed 73 = .ok (.aload_n 0, 1) := by decide +kernel
theorem dX11_feed_74 : decode cX11_feed 74 = .ok (.dup, 1) := by decide +kernel
theorem dX11_feed_75 : decode cX11_feed 75 = .ok (.getfield 120, 3) := by decide +kernel
theorem dX11_feed_78 : decode cX11_feed 78 = .ok (.iconst 1, 1) := by decide +kernel
theorem dX11_feed_79 : decode cX11_feed 79 = .ok (.iadd, 1) := by decide +kernel
theorem dX11_feed_80 : decode cX11_feed 80 = .ok (.putfield 120, 3) := by decide +kernel
theorem dX11_feed_83 : decode cX11_feed 83 = .ok (.iinc 4 1, 3) := by decide +kernel
theorem dX11_feed_86 : decode cX11_feed 86 = .ok (.goto (-40), 3) := by decide +kernel
theorem dX11_feed_89 : decode cX11_feed 89 = .ok (.aload_n 0, 1) := by decide +kernel
theorem dX11_feed_90 : decode cX11_feed 90 = .ok (.getfield 120, 3) := by decide +kernel
theorem dX11_feed_93 : decode cX11_feed 93 = .ok (.ireturn, 1) := by decide +kernel
theorem dX11_wipe_0 : decode cX11_wipe 0 = .ok (.aload_n 0, 1) := by decide +kernel
theorem dX11_wipe_1 : decode cX11_wipe 1 = .ok (.iconst 0, 1) := by decide +kernel
theorem dX11_wipe_2 : decode cX11_wipe 2 = .ok (.putfield 117, 3) := by decide +kernel
theorem dX11_wipe_5 : decode cX11_wipe 5 = .ok (.aload_n 0, 1) := by decide +kernel
theorem dX11_wipe_6 : decode cX11_wipe 6 = .ok (.getfield 120, 3) := by decide +kernel
theorem dX11_wipe_9 : decode cX11_wipe 9 = .ok (.istore_n 1, 1) := by decide +kernel
theorem dX11_wipe_10 : decode cX11_wipe 10 = .ok (.aload_n 0, 1) := by decide +kernel
theorem dX11_wipe_11 : decode cX11_wipe 11 = .ok (.iconst 0, 1) := by decide +kernel
theorem dX11_wipe_12 : decode cX11_wipe 12 = .ok (.putfield 120, 3) := by decide +kernel
theorem dX11_wipe_15 : decode cX11_wipe 15 = .ok (.iload_n 1, 1) := by decide +kernel
theorem dX11_wipe_16 : decode cX11_wipe 16 = .ok (.ireturn, 1) := by decide +kernel
theorem dX11_fail_0 : decode cX11_fail 0 = .ok (.aload_n 0, 1) := by decide +kernel
theorem dX11_fail_1 : decode cX11_fail 1 = .ok (.getfield 125, 3) := by decide +kernel
theorem dX11_fail_4 : decode cX11_fail 4 = .ok (.ifCond .ne 13, 3) := by decide +kernel
theorem dX11_fail_7 : decode cX11_fail 7 = .ok (.aload_n 0, 1) := by decide +kernel
theorem dX11_fail_8 : decode cX11_fail 8 = .ok (.iload_n 1, 1) := by decide +kernel
theorem dX11_fail_9 : decode cX11_fail 9 = .ok (.putfield 125, 3) := by decide +kernel
theorem dX11_fail_12 : decode cX11_fail 12 = .ok (.aload_n 0, 1) := by decide +kernel
theorem dX11_fail_13 : decode cX11_fail 13 = .ok (.iload_n 2, 1) := by decide +kernel
theorem dX11_fail_14 : decode cX11_fail 14 = .ok (.putfield 13, 3) := by decide +kernel
theorem dX11_fail_17 : decode cX11_fail 17 = .ok (.return_, 1) := by decide +kernel
theorem dX11_byteAt_0 : decode cX11_byteAt 0 = .ok (.iload_n 1, 1) := by decide +kernel
theorem dX11_byteAt_1 : decode cX11_byteAt 1 = .ok (.aload_n 0, 1) := by decide +kernel
theorem dX11_byteAt_2 : decode cX11_byteAt 2 = .ok (.getfield 120, 3) := by decide +kernel
theorem dX11_byteAt_5 : decode cX11_byteAt 5 = .ok (.if_icmp .ge 12, 3) := by decide +kernel
theorem dX11_byteAt_8 : decode cX11_byteAt 8 = .ok (.aload_n 0, 1) := by decide +kernel
theorem dX11_byteAt_9 : decode cX11_byteAt 9 = .ok (.getfield 7, 3) := by decide +kernel
theorem dX11_byteAt_12 : decode cX11_byteAt 12 = .ok (.iload_n 1, 1) := by decide +kernel
theorem dX11_byteAt_13 : decode cX11_byteAt 13 = .ok (.iaload, 1) := by decide +kernel
theorem dX11_byteAt_14 : decode cX11_byteAt 14 = .ok (.goto 4, 3) := by decide +kernel
theorem dX11_byteAt_17 : decode cX11_byteAt 17 = .ok (.iconst (-1), 1) := by decide +kernel
theorem dX11_byteAt_18 : decode cX11_byteAt 18 = .ok (.ireturn, 1) := by decide +kernel
theorem dX11_isLetter_0 : decode cX11_isLetter 0 = .ok (.iload_n 0, 1) := by decide +kernel
theorem dX11_isLetter_1 : decode cX11_isLetter 1 = .ok (.bipush 97, 2) := by decide +kernel
theorem dX11_isLetter_3 : decode cX11_isLetter 3 = .ok (.if_icmp .lt 13, 3) := by decide +kernel
theorem dX11_isLetter_6 : decode cX11_isLetter 6 = .ok (.iload_n 0, 1) := by decide +kernel
theorem dX11_isLetter_7 : decode cX11_isLetter 7 = .ok (.bipush 122, 2) := by decide +kernel
theorem dX11_isLetter_9 : decode cX11_isLetter 9 = .ok (.if_icmp .gt 7, 3) := by decide +kernel
theorem dX11_isLetter_12 : decode cX11_isLetter 12 = .ok (.iconst 1, 1) := by decide +kernel
theorem dX11_isLetter_13 : decode cX11_isLetter 13 = .ok (.goto 4, 3) := by decide +kernel
theorem dX11_isLetter_16 : decode cX11_isLetter 16 = .ok (.iconst 0, 1) := by decide +kernel
theorem dX11_isLetter_17 : decode cX11_isLetter 17 = .ok (.ireturn, 1) := by decide +kernel
theorem dX11_isFigure_0 : decode cX11_isFigure 0 = .ok (.iload_n 0, 1) := by decide +kernel
theorem dX11_isFigure_1 : decode cX11_isFigure 1 = .ok (.bipush 48, 2) := by decide +kernel
theorem dX11_isFigure_3 : decode cX11_isFigure 3 = .ok (.if_icmp .lt 13, 3) := by decide +kernel
theorem dX11_isFigure_6 : decode cX11_isFigure 6 = .ok (.iload_n 0, 1) := by decide +kernel
theorem dX11_isFigure_7 : decode cX11_isFigure 7 = .ok (.bipush 57, 2) := by decide +kernel
theorem dX11_isFigure_9 : decode cX11_isFigure 9 = .ok (.if_icmp .gt 7, 3) := by decide +kernel
theorem dX11_isFigure_12 : decode cX11_isFigure 12 = .ok (.iconst 1, 1) := by decide +kernel
theorem dX11_isFigure_13 : decode cX11_isFigure 13 = .ok (.goto 4, 3) := by decide +kernel
theorem dX11_isFigure_16 : decode cX11_isFigure 16 = .ok (.iconst 0, 1) := by decide +kernel
theorem dX11_isFigure_17 : decode cX11_isFigure 17 = .ok (.ireturn, 1) := by decide +kernel
theorem dX11_next_0 : decode cX11_next 0 = .ok (.aload_n 0, 1) := by decide +kernel
theorem dX11_next_1 : decode cX11_next 1 = .ok (.getfield 128, 3) := by decide +kernel
theorem dX11_next_4 : decode cX11_next 4 = .ok (.aload_n 0, 1) := by decide +kernel
theorem dX11_next_5 : decode cX11_next 5 = .ok (.getfield 120, 3) := by decide +kernel
theorem dX11_next_8 : decode cX11_next 8 = .ok (.if_icmp .ge 30, 3) := by decide +kernel
theorem dX11_next_11 : decode cX11_next 11 = .ok (.aload_n 0, 1) := by decide +kernel
theorem dX11_next_12 : decode cX11_next 12 = .ok (.getfield 7, 3) := by decide +kernel
theorem dX11_next_15 : decode cX11_next 15 = .ok (.aload_n 0, 1) := by decide +kernel
theorem dX11_next_16 : decode cX11_next 16 = .ok (.getfield 128, 3) := by decide +kernel
theorem dX11_next_19 : decode cX11_next 19 = .ok (.iaload, 1) := by decide +kernel
theorem dX11_next_20 : decode cX11_next 20 = .ok (.bipush 32, 2) := by decide +kernel
theorem dX11_next_22 : decode cX11_next 22 = .ok (.if_icmp .gt 16, 3) := by decide +kernel
theorem dX11_next_25 : decode cX11_next 25 = .ok (.aload_n 0, 1) := by decide +kernel
theorem dX11_next_26 : decode cX11_next 26 = .ok (.dup, 1) := by decide +kernel
theorem dX11_next_27 : decode cX11_next 27 = .ok (.getfield 128, 3) := by decide +kernel
theorem dX11_next_30 : decode cX11_next 30 = .ok (.iconst 1, 1) := by decide +kernel
theorem dX11_next_31 : decode cX11_next 31 = .ok (.iadd, 1) := by decide +kernel
theorem dX11_next_32 : decode cX11_next 32 = .ok (.putfield 128, 3) := by decide +kernel
theorem dX11_next_35 : decode cX11_next 35 = .ok (.goto (-35), 3) := by decide +kernel
theorem dX11_next_38 : decode cX11_next 38 = .ok (.aload_n 0, 1) := by decide +kernel
theorem dX11_next_39 : decode cX11_next 39 = .ok (.aload_n 0, 1) := by decide +kernel
theorem dX11_next_40 : decode cX11_next 40 = .ok (.getfield 128, 3) := by decide +kernel
theorem dX11_next_43 : decode cX11_next 43 = .ok (.invokevirtual 131, 3) := by decide +kernel
theorem dX11_next_46 : decode cX11_next 46 = .ok (.ireturn, 1) := by decide +kernel
theorem dX11_want_0 : decode cX11_want 0 = .ok (.aload_n 0, 1) := by decide +kernel
theorem dX11_want_1 : decode cX11_want 1 = .ok (.getfield 125, 3) := by decide +kernel
theorem dX11_want_4 : decode cX11_want 4 = .ok (.ifCond .ne 33, 3) := by decide +kernel
theorem dX11_want_7 : decode cX11_want 7 = .ok (.aload_n 0, 1) := by decide +kernel
theorem dX11_want_8 : decode cX11_want 8 = .ok (.invokevirtual 135, 3) := by decide +kernel
theorem dX11_want_11 : decode cX11_want 11 = .ok (.iload_n 1, 1) := by decide +kernel
theorem dX11_want_12 : decode cX11_want 12 = .ok (.if_icmp .ne 16, 3) := by decide +kernel
theorem dX11_want_15 : decode cX11_want 15 = .ok (.aload_n 0, 1) := by decide +kernel
theorem dX11_want_16 : decode cX11_want 16 = .ok (.dup, 1) := by decide +kernel
theorem dX11_want_17 : decode cX11_want 17 = .ok (.getfield 128, 3) := by decide +kernel
theorem dX11_want_20 : decode cX11_want 20 = .ok (.iconst 1, 1) := by decide +kernel
theorem dX11_want_21 : decode cX11_want 21 = .ok (.iadd, 1) := by decide +kernel
theorem dX11_want_22 : decode cX11_want 22 = .ok (.putfield 128, 3) := by decide +kernel
theorem dX11_want_25 : decode cX11_want 25 = .ok (.goto 12, 3) := by decide +kernel
theorem dX11_want_28 : decode cX11_want 28 = .ok (.aload_n 0, 1) := by decide +kernel
theorem dX11_want_29 : decode cX11_want 29 = .ok (.iconst 1, 1) := by decide +kernel
theorem dX11_want_30 : decode cX11_want 30 = .ok (.aload_n 0, 1) := by decide +kernel
theorem dX11_want_31 : decode cX11_want 31 = .ok (.getfield 128, 3) := by decide +kernel
theorem dX11_want_34 : decode cX11_want 34 = .ok (.invokevirtual 139, 3) := by decide +kernel
theorem dX11_want_37 : decode cX11_want 37 = .ok (.return_, 1) := by decide +kernel
theorem dX11_wordSize_0 : decode cX11_wordSize 0 = .ok (.iconst 0, 1) := by decide +kernel
theorem dX11_wordSize_1 : decode cX11_wordSize 1 = .ok (.istore_n 2, 1) := by decide +kernel
theorem dX11_wordSize_2 : decode cX11_wordSize 2 = .ok (.aload_n 0, 1) := by decide +kernel
theorem dX11_wordSize_3 : decode cX11_wordSize 3 = .ok (.iload_n 1, 1) := by decide +kernel
theorem dX11_wordSize_4 : decode cX11_wordSize 4 = .ok (.iload_n 2, 1) := by decide +kernel
theorem dX11_wordSize_5 : decode cX11_wordSize 5 = .ok (.iadd, 1) := by decide +kernel
theorem dX11_wordSize_6 : decode cX11_wordSize 6 = .ok (.invokevirtual 131, 3) := by decide +kernel
theorem dX11_wordSize_9 : decode cX11_wordSize 9 = .ok (.invokestatic 143, 3) := by decide +kernel
theorem dX11_wordSize_12 : decode cX11_wordSize 12 = .ok (.ifCond .eq 9, 3) := by decide +kernel
theorem dX11_wordSize_15 : decode cX11_wordSize 15 = .ok (.iinc 2 1, 3) := by decide +kernel
theorem dX11_wordSize_18 : decode cX11_wordSize 18 = .ok (.goto (-16), 3) := by decide +kernel
theorem dX11_wordSize_21 : decode cX11_wordSize 21 = .ok (.iload_n 2, 1) := by decide +kernel
theorem dX11_wordSize_22 : decode cX11_wordSize 22 = .ok (.ireturn, 1) := by decide +kernel
theorem dX11_word_0 : decode cX11_word 0 = .ok (.aload_n 0, 1) := by decide +kernel
theorem dX11_word_1 : decode cX11_word 1 = .ok (.invokevirtual 135, 3) := by decide +kernel
theorem dX11_word_4 : decode cX11_word 4 = .ok (.istore_n 1, 1) := by decide +kernel
theorem dX11_word_5 : decode cX11_word 5 = .ok (.aload_n 0, 1) := by decide +kernel
theorem dX11_word_6 : decode cX11_word 6 = .ok (.aload_n 0, 1) := by decide +kernel
theorem dX11_word_7 : decode cX11_word 7 = .ok (.getfield 128, 3) := by decide +kernel
theorem dX11_word_10 : decode cX11_word 10 = .ok (.invokevirtual 147, 3) := by decide +kernel
theorem dX11_word_13 : decode cX11_word 13 = .ok (.istore_n 2, 1) := by decide +kernel
theorem dX11_word_14 : decode cX11_word 14 = .ok (.lconst 0, 1) := by decide +kernel
theorem dX11_word_15 : decode cX11_word 15 = .ok (.lstore_n 3, 1) := by decide +kernel
theorem dX11_word_16 : decode cX11_word 16 = .ok (.iconst 0, 1) := by decide +kernel
theorem dX11_word_17 : decode cX11_word 17 = .ok (.istore 5, 2) := by decide +kernel
theorem dX11_word_19 : decode cX11_word 19 = .ok (.iload 5, 2) := by decide +kernel
theorem dX11_word_21 : decode cX11_word 21 = .ok (.iload_n 2, 1) := by decide +kernel
theorem dX11_word_22 : decode cX11_word 22 = .ok (.if_icmp .ge 34, 3) := by decide +kernel
theorem dX11_word_25 : decode cX11_word 25 = .ok (.iload 5, 2) := by decide +kernel
theorem dX11_word_27 : decode cX11_word 27 = .ok (.bipush 6, 2) := by decide +kernel
theorem dX11_word_29 : decode cX11_word 29 = .ok (.if_icmp .ge 27, 3) := by decide +kernel
theorem dX11_word_32 : decode cX11_word 32 = .ok (.lload_n 3, 1) := by decide +kernel
theorem dX11_word_33 : decode cX11_word 33 = .ok (.bipush 8, 2) := by decide +kernel
theorem dX11_word_35 : decode cX11_word 35 = .ok (.lshl, 1) := by decide +kernel
theorem dX11_word_36 : decode cX11_word 36 = .ok (.aload_n 0, 1) := by decide +kernel
theorem dX11_word_37 : decode cX11_word 37 = .ok (.aload_n 0, 1) := by decide +kernel
theorem dX11_word_38 : decode cX11_word 38 = .ok (.getfield 128, 3) := by decide +kernel
theorem dX11_word_41 : decode cX11_word 41 = .ok (.iload 5, 2) := by decide +kernel
theorem dX11_word_43 : decode cX11_word 43 = .ok (.iadd, 1) := by decide +kernel
theorem dX11_word_44 : decode cX11_word 44 = .ok (.invokevirtual 131, 3) := by decide +kernel
theorem dX11_word_47 : decode cX11_word 47 = .ok (.i2l, 1) := by decide +kernel
theorem dX11_word_48 : decode cX11_word 48 = .ok (.lor, 1) := by decide +kernel
theorem dX11_word_49 : decode cX11_word 49 = .ok (.lstore_n 3, 1) := by decide +kernel
theorem dX11_word_50 : decode cX11_word 50 = .ok (.iinc 5 1, 3) := by decide +kernel
theorem dX11_word_53 : decode cX11_word 53 = .ok (.goto (-34), 3) := by decide +kernel
theorem dX11_word_56 : decode cX11_word 56 = .ok (.iload_n 2, 1) := by decide +kernel
theorem dX11_word_57 : decode cX11_word 57 = .ok (.iconst 1, 1) := by decide +kernel
theorem dX11_word_58 : decode cX11_word 58 = .ok (.if_icmp .ne 25, 3) := by decide +kernel
theorem dX11_word_61 : decode cX11_word 61 = .ok (.iload_n 1, 1) := by decide +kernel
theorem dX11_word_62 : decode cX11_word 62 = .ok (.bipush 104, 2) := by decide +kernel
theorem dX11_word_64 : decode cX11_word 64 = .ok (.if_icmp .gt 7, 3) := by decide +kernel
theorem dX11_word_67 : decode cX11_word 67 = .ok (.iconst 4, 1) := by decide +kernel
theorem dX11_word_68 : decode cX11_word 68 = .ok (.goto 14, 3) := by decide +kernel
theorem dX11_word_71 : decode cX11_word 71 = .ok (.iload_n 1, 1) := by decide +kernel
theorem dX11_word_72 : decode cX11_word 72 = .ok (.bipush 109, 2) := by decide +kernel
theorem dX11_word_74 : decode cX11_word 74 = .ok (.if_icmp .ne 7, 3) := by decide +kernel
theorem dX11_word_77 : decode cX11_word 77 = .ok (.iconst 5, 1) := by decide +kernel
theorem dX11_word_78 : decode cX11_word 78 = .ok (.goto 4, 3) := by decide +kernel
theorem dX11_word_81 : decode cX11_word 81 = .ok (.iconst 0, 1) := by decide +kernel
theorem dX11_word_82 : decode cX11_word 82 = .ok (.ireturn, 1) := by decide +kernel
theorem dX11_word_83 : decode cX11_word 83 = .ok (.iload_n 2, 1) := by decide +kernel
theorem dX11_word_84 : decode cX11_word 84 = .ok (.iconst 2, 1) := by decide +kernel
theorem dX11_word_85 : decode cX11_word 85 = .ok (.if_icmp .ne 15, 3) := by decide +kernel
theorem dX11_word_88 : decode cX11_word 88 = .ok (.lload_n 3, 1) := by decide +kernel
theorem dX11_word_89 : decode cX11_word 89 = .ok (.ldc2_w 150, 3) := by decide +kernel
theorem dX11_word_92 : decode cX11_word 92 = .ok (.lcmp, 1) := by decide +kernel
theorem dX11_word_93 : decode cX11_word 93 = .ok (.ifCond .ne 7, 3) := by decide +kernel
theorem dX11_word_96 : decode cX11_word 96 = .ok (.iconst 1, 1) := by decide +kernel
theorem dX11_word_97 : decode cX11_word 97 = .ok (.goto 4, 3) := by decide +kernel
theorem dX11_word_100 : decode cX11_word 100 = .ok (.iconst 0, 1) := by decide +kernel
theorem dX11_word_101 : decode cX11_word 101 = .ok (.istore 5, 2) := by decide +kernel
theorem dX11_word_103 : decode cX11_word 103 = .ok (.iload_n 2, 1) := by decide +kernel
theorem dX11_word_104 : decode cX11_word 104 = .ok (.iconst 4, 1) := by decide +kernel
theorem dX11_word_105 : decode cX11_word 105 = .ok (.if_icmp .ne 15, 3) := by decide +kernel
theorem dX11_word_108 : decode cX11_word 108 = .ok (.lload_n 3, 1) := by decide +kernel
theorem dX11_word_109 : decode cX11_word 109 = .ok (.ldc2_w 152, 3) := by decide +kernel
theorem dX11_word_112 : decode cX11_word 112 = .ok (.lcmp, 1) := by decide +kernel
theorem dX11_word_113 : decode cX11_word 113 = .ok (.ifCond .ne 7, 3) := by decide +kernel
theorem dX11_word_116 : decode cX11_word 116 = .ok (.iconst 1, 1) := by decide +kernel
theorem dX11_word_117 : decode cX11_word 117 = .ok (.goto 4, 3) := by decide +kernel
theorem dX11_word_120 : decode cX11_word 120 = .ok (.iconst 0, 1) := by decide +kernel
theorem dX11_word_121 : decode cX11_word 121 = .ok (.istore 6, 2) := by decide +kernel
theorem dX11_word_123 : decode cX11_word 123 = .ok (.iload_n 2, 1) := by decide +kernel
theorem dX11_word_124 : decode cX11_word 124 = .ok (.iconst 5, 1) := by decide +kernel
theorem dX11_word_125 : decode cX11_word 125 = .ok (.if_icmp .ne 15, 3) := by decide +kernel
theorem dX11_word_128 : decode cX11_word 128 = .ok (.lload_n 3, 1) := by decide +kernel
theorem dX11_word_129 : decode cX11_word 129 = .ok (.ldc2_w 154, 3) := by decide +kernel
theorem dX11_word_132 : decode cX11_word 132 = .ok (.lcmp, 1) := by decide +kernel
theorem dX11_word_133 : decode cX11_word 133 = .ok (.ifCond .ne 7, 3) := by decide +kernel
theorem dX11_word_136 : decode cX11_word 136 = .ok (.iconst 1, 1) := by decide +kernel
theorem dX11_word_137 : decode cX11_word 137 = .ok (.goto 4, 3) := by decide +kernel
theorem dX11_word_140 : decode cX11_word 140 = .ok (.iconst 0, 1) := by decide +kernel
theorem dX11_word_141 : decode cX11_word 141 = .ok (.istore 7, 2) := by decide +kernel
theorem dX11_word_143 : decode cX11_word 143 = .ok (.iload 5, 2) := by decide +kernel
theorem dX11_word_145 : decode cX11_word 145 = .ok (.ifCond .eq 7, 3) := by decide +kernel
theorem dX11_word_148 : decode cX11_word 148 = .ok (.iconst 1, 1) := by decide +kernel
theorem dX11_word_149 : decode cX11_word 149 = .ok (.goto 22, 3) := by decide +kernel
theorem dX11_word_152 : decode cX11_word 152 = .ok (.iload 6, 2) := by decide +kernel
theorem dX11_word_154 : decode cX11_word 154 = .ok (.ifCond .eq 7, 3) := by decide +kernel
theorem dX11_word_157 : decode cX11_word 157 = .ok (.iconst 2, 1) := by decide +kernel
theorem dX11_word_158 : decode cX11_word 158 = .ok (.goto 13, 3) := by decide +kernel
theorem dX11_word_161 : decode cX11_word 161 = .ok (.iload 7, 2) := by decide +kernel
theorem dX11_word_163 : decode cX11_word 163 = .ok (.ifCond .eq 7, 3) := by decide +kernel
theorem dX11_word_166 : decode cX11_word 166 = .ok (.iconst 3, 1) := by decide +kernel
theorem dX11_word_167 : decode cX11_word 167 = .ok (.goto 4, 3) := by decide +kernel
theorem dX11_word_170 : decode cX11_word 170 = .ok (.iconst 0, 1) := by decide +kernel
theorem dX11_word_171 : decode cX11_word 171 = .ok (.ireturn, 1) := by decide +kernel
theorem dX11_way_0 : decode cX11_way 0 = .ok (.aload_n 0, 1) := by decide +kernel
theorem dX11_way_1 : decode cX11_way 1 = .ok (.getfield 48, 3) := by decide +kernel
theorem dX11_way_4 : decode cX11_way 4 = .ok (.aload_n 0, 1) := by decide +kernel
theorem dX11_way_5 : decode cX11_way 5 = .ok (.getfield 156, 3) := by decide +kernel
theorem dX11_way_8 : decode cX11_way 8 = .ok (.iconst 2, 1) := by decide +kernel
theorem dX11_way_9 : decode cX11_way 9 = .ok (.iload_n 1, 1) := by decide +kernel
theorem dX11_way_10 : decode cX11_way 10 = .ok (.imul, 1) := by decide +kernel
theorem dX11_way_11 : decode cX11_way 11 = .ok (.iload_n 2, 1) := by decide +kernel
theorem dX11_way_12 : decode cX11_way 12 = .ok (.ifCond .eq 7, 3) := by decide +kernel
theorem dX11_way_15 : decode cX11_way 15 = .ok (.iconst 1, 1) := by decide +kernel
theorem dX11_way_16 : decode cX11_way 16 = .ok (.goto 4, 3) := by decide +kernel
theorem dX11_way_19 : decode cX11_way 19 = .ok (.iconst 0, 1) := by decide +kernel
theorem dX11_way_20 : decode cX11_way 20 = .ok (.iadd, 1) := by decide +kernel
theorem dX11_way_21 : decode cX11_way 21 = .ok (.iastore, 1) := by decide +kernel
theorem dX11_way_22 : decode cX11_way 22 = .ok (.aload_n 0, 1) := by decide +kernel
theorem dX11_way_23 : decode cX11_way 23 = .ok (.dup, 1) := by decide +kernel
theorem dX11_way_24 : decode cX11_way 24 = .ok (.getfield 156, 3) := by decide +kernel
theorem dX11_way_27 : decode cX11_way 27 = .ok (.iconst 1, 1) := by decide +kernel
theorem dX11_way_28 : decode cX11_way 28 = .ok (.iadd, 1) := by decide +kernel
theorem dX11_way_29 : decode cX11_way 29 = .ok (.putfield 156, 3) := by decide +kernel
theorem dX11_way_32 : decode cX11_way 32 = .ok (.return_, 1) := by decide +kernel
theorem dX11_lead_0 : decode cX11_lead 0 = .ok (.iload_n 1, 1) := by decide +kernel
theorem dX11_lead_1 : decode cX11_lead 1 = .ok (.istore_n 3, 1) := by decide +kernel
theorem dX11_lead_2 : decode cX11_lead 2 = .ok (.iload_n 3, 1) := by decide +kernel
theorem dX11_lead_3 : decode cX11_lead 3 = .ok (.aload_n 0, 1) := by decide +kernel
theorem dX11_lead_4 : decode cX11_lead 4 = .ok (.getfield 156, 3) := by decide +kernel
theorem dX11_lead_7 : decode cX11_lead 7 = .ok (.if_icmp .ge 49, 3) := by decide +kernel
theorem dX11_lead_10 : decode cX11_lead 10 = .ok (.aload_n 0, 1) := by decide +kernel
theorem dX11_lead_11 : decode cX11_lead 11 = .ok (.getfield 48, 3) := by decide +kernel
theorem dX11_lead_14 : decode cX11_lead 14 = .ok (.iload_n 3, 1) := by decide +kernel
theorem dX11_lead_15 : decode cX11_lead 15 = .ok (.iaload, 1) := by decide +kernel
theorem dX11_lead_16 : decode cX11_lead 16 = .ok (.iconst 2, 1) := by decide +kernel
theorem dX11_lead_17 : decode cX11_lead 17 = .ok (.idiv, 1) := by decide +kernel
theorem dX11_lead_18 : decode cX11_lead 18 = .ok (.istore 4, 2) := by decide +kernel
theorem dX11_lead_20 : decode cX11_lead 20 = .ok (.aload_n 0, 1) := by decide +kernel
theorem dX11_lead_21 : decode cX11_lead 21 = .ok (.getfield 48, 3) := by decide +kernel
theorem dX11_lead_24 : decode cX11_lead 24 = .ok (.iload_n 3, 1) := by decide +kernel
theorem dX11_lead_25 : decode cX11_lead 25 = .ok (.iaload, 1) := by decide +kernel
theorem dX11_lead_26 : decode cX11_lead 26 = .ok (.iconst 2, 1) := by decide +kernel
theorem dX11_lead_27 : decode cX11_lead 27 = .ok (.irem, 1) := by decide +kernel
theorem dX11_lead_28 : decode cX11_lead 28 = .ok (.ifCond .ne 14, 3) := by decide +kernel
theorem dX11_lead_31 : decode cX11_lead 31 = .ok (.aload_n 0, 1) := by decide +kernel
theorem dX11_lead_32 : decode cX11_lead 32 = .ok (.getfield 38, 3) := by decide +kernel
theorem dX11_lead_35 : decode cX11_lead 35 = .ok (.iload 4, 2) := by decide +kernel
theorem dX11_lead_37 : decode cX11_lead 37 = .ok (.iload_n 2, 1) := by decide +kernel
theorem dX11_lead_38 : decode cX11_lead 38 = .ok (.iastore, 1) := by decide +kernel
theorem dX11_lead_39 : decode cX11_lead 39 = .ok (.goto 11, 3) := by decide +kernel
theorem dX11_lead_42 : decode cX11_lead 42 = .ok (.aload_n 0, 1) := by decide +kernel
theorem dX11_lead_43 : decode cX11_lead 43 = .ok (.getfield 41, 3) := by decide +kernel
theorem dX11_lead_46 : decode cX11_lead 46 = .ok (.iload 4, 2) := by decide +kernel
theorem dX11_lead_48 : decode cX11_lead 48 = .ok (.iload_n 2, 1) := by decide +kernel
theorem dX11_lead_49 : decode cX11_lead 49 = .ok (.iastore, 1) := by decide +kernel
theorem dX11_lead_50 : decode cX11_lead 50 = .ok (.iinc 3 1, 3) := by decide +kernel
theorem dX11_lead_53 : decode cX11_lead 53 = .ok (.goto (-51), 3) := by decide +kernel
theorem dX11_lead_56 : decode cX11_lead 56 = .ok (.aload_n 0, 1) := by decide +kernel
theorem dX11_lead_57 : decode cX11_lead 57 = .ok (.iload_n 1, 1) := by decide +kernel
theorem dX11_lead_58 : decode cX11_lead 58 = .ok (.putfield 156, 3) := by decide +kernel
theorem dX11_lead_61 : decode cX11_lead 61 = .ok (.return_, 1) := by decide +kernel
theorem dX11_needBlock_0 : decode cX11_needBlock 0 = .ok (.aload_n 0, 1) := by decide +kernel
theorem dX11_needBlock_1 : decode cX11_needBlock 1 = .ok (.getfield 159, 3) := by decide +kernel
theorem dX11_needBlock_4 : decode cX11_needBlock 4 = .ok (.iconst (-1), 1) := by decide +kernel
theorem dX11_needBlock_5 : decode cX11_needBlock 5 = .ok (.if_icmp .ne 63, 3) := by decide +kernel
theorem dX11_needBlock_8 : decode cX11_needBlock 8 = .ok (.aload_n 0, 1) := by decide +kernel
theorem dX11_needBlock_9 : decode cX11_needBlock 9 = .ok (.aload_n 0, 1) := by decide +kernel
theorem dX11_needBlock_10 : decode cX11_needBlock 10 = .ok (.getfield 162, 3) := by decide +kernel
theorem dX11_needBlock_13 : decode cX11_needBlock 13 = .ok (.putfield 159, 3) := by decide +kernel
theorem dX11_needBlock_16 : decode cX11_needBlock 16 = .ok (.aload_n 0, 1) := by decide +kernel
theorem dX11_needBlock_17 : decode cX11_needBlock 17 = .ok (.dup, 1) := by decide +kernel
theorem dX11_needBlock_18 : decode cX11_needBlock 18 = .ok (.getfield 162, 3) := by decide +kernel
theorem dX11_needBlock_21 : decode cX11_needBlock 21 = .ok (.iconst 1, 1) := by decide +kernel
theorem dX11_needBlock_22 : decode cX11_needBlock 22 = .ok (.iadd, 1) := by decide +kernel
theorem dX11_needBlock_23 : decode cX11_needBlock 23 = .ok (.putfield 162, 3) := by decide +kernel
theorem dX11_needBlock_26 : decode cX11_needBlock 26 = .ok (.aload_n 0, 1) := by decide +kernel
theorem dX11_needBlock_27 : decode cX11_needBlock 27 = .ok (.getfield 38, 3) := by decide +kernel
theorem dX11_needBlock_30 : decode cX11_needBlock 30 = .ok (.aload_n 0, 1) := by decide +kernel
theorem dX11_needBlock_31 : decode cX11_needBlock 31 = .ok (.getfield 159, 3) := by decide +kernel
theorem dX11_needBlock_34 : decode cX11_needBlock 34 = .ok (.iconst (-1), 1) := by decide +kernel
theorem dX11_needBlock_35 : decode cX11_needBlock 35 = .ok (.iastore, 1) := by decide +kernel
theorem dX11_needBlock_36 : decode cX11_needBlock 36 = .ok (.aload_n 0, 1) := by decide +kernel
theorem dX11_needBlock_37 : decode cX11_needBlock 37 = .ok (.getfield 41, 3) := by decide +kernel
theorem dX11_needBlock_40 : decode cX11_needBlock 40 = .ok (.aload_n 0, 1) := by decide +kernel
theorem dX11_needBlock_41 : decode cX11_needBlock 41 = .ok (.getfield 159, 3) := by decide +kernel
theorem dX11_needBlock_44 : decode cX11_needBlock 44 = .ok (.iconst (-1), 1) := by decide +kernel
theorem dX11_needBlock_45 : decode cX11_needBlock 45 = .ok (.iastore, 1) := by decide +kernel
theorem dX11_needBlock_46 : decode cX11_needBlock 46 = .ok (.aload_n 0, 1) := by decide +kernel
theorem dX11_needBlock_47 : decode cX11_needBlock 47 = .ok (.getfield 44, 3) := by decide +kernel
theorem dX11_needBlock_50 : decode cX11_needBlock 50 = .ok (.aload_n 0, 1) := by decide +kernel
theorem dX11_needBlock_51 : decode cX11_needBlock 51 = .ok (.getfield 159, 3) := by decide +kernel
theorem dX11_needBlock_54 : decode cX11_needBlock 54 = .ok (.iconst 0, 1) := by decide +kernel
theorem dX11_needBlock_55 : decode cX11_needBlock 55 = .ok (.bastore, 1) := by decide +kernel
theorem dX11_needBlock_56 : decode cX11_needBlock 56 = .ok (.aload_n 0, 1) := by decide +kernel
theorem dX11_needBlock_57 : decode cX11_needBlock 57 = .ok (.aload_n 0, 1) := by decide +kernel
theorem dX11_needBlock_58 : decode cX11_needBlock 58 = .ok (.getfield 165, 3) := by decide +kernel
theorem dX11_needBlock_61 : decode cX11_needBlock 61 = .ok (.aload_n 0, 1) := by decide +kernel
theorem dX11_needBlock_62 : decode cX11_needBlock 62 = .ok (.getfield 159, 3) := by decide +kernel
theorem dX11_needBlock_65 : decode cX11_needBlock 65 = .ok (.invokevirtual 168, 3) := by decide +kernel
theorem dX11_needBlock_68 : decode cX11_needBlock 68 = .ok (.return_, 1) := by decide +kernel
theorem dX11_emit_0 : decode cX11_emit 0 = .ok (.aload_n 0, 1) := by decide +kernel
theorem dX11_emit_1 : decode cX11_emit 1 = .ok (.getfield 125, 3) := by decide +kernel
theorem dX11_emit_4 : decode cX11_emit 4 = .ok (.ifCond .ne 19, 3) := by decide +kernel
theorem dX11_emit_7 : decode cX11_emit 7 = .ok (.aload_n 0, 1) := by decide +kernel
theorem dX11_emit_8 : decode cX11_emit 8 = .ok (.getfield 171, 3) := by decide +kernel
theorem dX11_emit_11 : decode cX11_emit 11 = .ok (.sipush 200, 3) := by decide +kernel
theorem dX11_emit_14 : decode cX11_emit 14 = .ok (.if_icmp .ne 9, 3) := by decide +kernel
theorem dX11_emit_17 : decode cX11_emit 17 = .ok (.aload_n 0, 1) := by decide +kernel
theorem dX11_emit_18 : decode cX11_emit 18 = .ok (.iconst 3, 1) := by decide +kernel
theorem dX11_emit_19 : decode cX11_emit 19 = .ok (.iload_n 2, 1) := by decide +kernel
theorem dX11_emit_20 : decode cX11_emit 20 = .ok (.invokevirtual 139, 3) := by decide +kernel
theorem dX11_emit_23 : decode cX11_emit 23 = .ok (.aload_n 0, 1) := by decide +kernel
theorem dX11_emit_24 : decode cX11_emit 24 = .ok (.getfield 125, 3) := by decide +kernel
theorem dX11_emit_27 : decode cX11_emit 27 = .ok (.ifCond .le 5, 3) := by decide +kernel
theorem dX11_emit_30 : decode cX11_emit 30 = .ok (.iconst 0, 1) := by decide +kernel
theorem dX11_emit_31 : decode cX11_emit 31 = .ok (.ireturn, 1) := by decide +kernel
theorem dX11_emit_32 : decode cX11_emit 32 = .ok (.aload_n 0, 1) := by decide +kernel
theorem dX11_emit_33 : decode cX11_emit 33 = .ok (.invokevirtual 174, 3) := by decide +kernel
theorem dX11_emit_36 : decode cX11_emit 36 = .ok (.aload_n 0, 1) := by decide +kernel
theorem dX11_emit_37 : decode cX11_emit 37 = .ok (.getfield 171, 3) := by decide +kernel
theorem dX11_emit_40 : decode cX11_emit 40 = .ok (.istore 5, 2) := by decide +kernel
theorem dX11_emit_42 : decode cX11_emit 42 = .ok (.aload_n 0, 1) := by decide +kernel
theorem dX11_emit_43 : decode cX11_emit 43 = .ok (.dup, 1) := by decide +kernel
theorem dX11_emit_44 : decode cX11_emit 44 = .ok (.getfield 171, 3) := by decide +kernel
theorem dX11_emit_47 : decode cX11_emit 47 = .ok (.iconst 1, 1) := by decide +kernel
theorem dX11_emit_48 : decode cX11_emit 48 = .ok (.iadd, 1) := by decide +kernel
theorem dX11_emit_49 : decode cX11_emit 49 = .ok (.putfield 171, 3) := by decide +kernel
theorem dX11_emit_52 : decode cX11_emit 52 = .ok (.aload_n 0, 1) := by decide +kernel
theorem dX11_emit_53 : decode cX11_emit 53 = .ok (.getfield 17, 3) := by decide +kernel
theorem dX11_emit_56 : decode cX11_emit 56 = .ok (.iload 5, 2) := by decide +kernel
theorem dX11_emit_58 : decode cX11_emit 58 = .ok (.iload_n 1, 1) := by decide +kernel
theorem dX11_emit_59 : decode cX11_emit 59 = .ok (.iastore, 1) := by decide +kernel
theorem dX11_emit_60 : decode cX11_emit 60 = .ok (.aload_n 0, 1) := by decide +kernel
theorem dX11_emit_61 : decode cX11_emit 61 = .ok (.getfield 20, 3) := by decide +kernel
theorem dX11_emit_64 : decode cX11_emit 64 = .ok (.iconst 2, 1) := by decide +kernel
theorem dX11_emit_65 : decode cX11_emit 65 = .ok (.iload 5, 2) := by decide +kernel
theorem dX11_emit_67 : decode cX11_emit 67 = .ok (.imul, 1) := by decide +kernel
theorem dX11_emit_68 : decode cX11_emit 68 = .ok (.iload_n 3, 1) := by decide +kernel
theorem dX11_emit_69 : decode cX11_emit 69 = .ok (.iastore, 1) := by decide +kernel
theorem dX11_emit_70 : decode cX11_emit 70 = .ok (.aload_n 0, 1) := by decide +kernel
theorem dX11_emit_71 : decode cX11_emit 71 = .ok (.getfield 23, 3) := by decide +kernel
theorem dX11_emit_74 : decode cX11_emit 74 = .ok (.iconst 2, 1) := by decide +kernel
theorem dX11_emit_75 : decode cX11_emit 75 = .ok (.iload 5, 2) := by decide +kernel
theorem dX11_emit_77 : decode cX11_emit 77 = .ok (.imul, 1) := by decide +kernel
theorem dX11_emit_78 : decode cX11_emit 78 = .ok (.iload 4, 2) := by decide +kernel
theorem dX11_emit_80 : decode cX11_emit 80 = .ok (.iastore, 1) := by decide +kernel
theorem dX11_emit_81 : decode cX11_emit 81 = .ok (.aload_n 0, 1) := by decide +kernel
theorem dX11_emit_82 : decode cX11_emit 82 = .ok (.getfield 20, 3) := by decide +kernel
theorem dX11_emit_85 : decode cX11_emit 85 = .ok (.iconst 2, 1) := by decide +kernel
theorem dX11_emit_86 : decode cX11_emit 86 = .ok (.iload 5, 2) := by decide +kernel
theorem dX11_emit_88 : decode cX11_emit 88 = .ok (.imul, 1) := by decide +kernel
theorem dX11_emit_89 : decode cX11_emit 89 = .ok (.iconst 1, 1) := by decide +kernel
theorem dX11_emit_90 : decode cX11_emit 90 = .ok (.iadd, 1) := by decide +kernel
theorem dX11_emit_91 : decode cX11_emit 91 = .ok (.aload_n 0, 1) := by decide +kernel
theorem dX11_emit_92 : decode cX11_emit 92 = .ok (.getfield 177, 3) := by decide +kernel
theorem dX11_emit_95 : decode cX11_emit 95 = .ok (.iastore, 1) := by decide +kernel
theorem dX11_emit_96 : decode cX11_emit 96 = .ok (.aload_n 0, 1) := by decide +kernel
theorem dX11_emit_97 : decode cX11_emit 97 = .ok (.getfield 23, 3) := by decide +kernel
theorem dX11_emit_100 : decode cX11_emit 100 = .ok (.iconst 2, 1) := by decide +kernel
theorem dX11_emit_101 : decode cX11_emit 101 = .ok (.iload 5, 2) := by decide +kernel
theorem dX11_emit_103 : decode cX11_emit 103 = .ok (.imul, 1) := by decide +kernel
theorem dX11_emit_104 : decode cX11_emit 104 = .ok (.iconst 1, 1) := by decide +kernel
theorem dX11_emit_105 : decode cX11_emit 105 = .ok (.iadd, 1) := by decide +kernel
theorem dX11_emit_106 : decode cX11_emit 106 = .ok (.aload_n 0, 1) := by decide +kernel
theorem dX11_emit_107 : decode cX11_emit 107 = .ok (.getfield 180, 3) := by decide +kernel
theorem dX11_emit_110 : decode cX11_emit 110 = .ok (.iastore, 1) := by decide +kernel
theorem dX11_emit_111 : decode cX11_emit 111 = .ok (.aload_n 0, 1) := by decide +kernel
theorem dX11_emit_112 : decode cX11_emit 112 = .ok (.getfield 26, 3) := by decide +kernel
theorem dX11_emit_115 : decode cX11_emit 115 = .ok (.iload 5, 2) := by decide +kernel
theorem dX11_emit_117 : decode cX11_emit 117 = .ok (.iconst (-1), 1) := by decide +kernel
theorem dX11_emit_118 : decode cX11_emit 118 = .ok (.iastore, 1) := by decide +kernel
theorem dX11_emit_119 : decode cX11_emit 119 = .ok (.aload_n 0, 1) := by decide +kernel
theorem dX11_emit_120 : decode cX11_emit 120 = .ok (.getfield 29, 3) := by decide +kernel
theorem dX11_emit_123 : decode cX11_emit 123 = .ok (.iload 5, 2) := by decide +kernel
theorem dX11_emit_125 : decode cX11_emit 125 = .ok (.aload_n 0, 1) := by decide +kernel
theorem dX11_emit_126 : decode cX11_emit 126 = .ok (.getfield 159, 3) := by decide +kernel
theorem dX11_emit_129 : decode cX11_emit 129 = .ok (.iastore, 1) := by decide +kernel
theorem dX11_emit_130 : decode cX11_emit 130 = .ok (.aload_n 0, 1) := by decide +kernel
theorem dX11_emit_131 : decode cX11_emit 131 = .ok (.iconst 3, 1) := by decide +kernel
theorem dX11_emit_132 : decode cX11_emit 132 = .ok (.putfield 177, 3) := by decide +kernel
theorem dX11_emit_135 : decode cX11_emit 135 = .ok (.aload_n 0, 1) := by decide +kernel
theorem dX11_emit_136 : decode cX11_emit 136 = .ok (.iload 5, 2) := by decide +kernel
theorem dX11_emit_138 : decode cX11_emit 138 = .ok (.putfield 180, 3) := by decide +kernel
theorem dX11_emit_141 : decode cX11_emit 141 = .ok (.iload 5, 2) := by decide +kernel
theorem dX11_emit_143 : decode cX11_emit 143 = .ok (.ireturn, 1) := by decide +kernel
theorem dX11_open_0 : decode cX11_open 0 = .ok (.aload_n 0, 1) := by decide +kernel
theorem dX11_open_1 : decode cX11_open 1 = .ok (.getfield 183, 3) := by decide +kernel
theorem dX11_open_4 : decode cX11_open 4 = .ok (.bipush 20, 2) := by decide +kernel
theorem dX11_open_6 : decode cX11_open 6 = .ok (.if_icmp .ne 12, 3) := by decide +kernel
theorem dX11_open_9 : decode cX11_open 9 = .ok (.aload_n 0, 1) := by decide +kernel
theorem dX11_open_10 : decode cX11_open 10 = .ok (.iconst 3, 1) := by decide +kernel
theorem dX11_open_11 : decode cX11_open 11 = .ok (.aload_n 0, 1) := by decide +kernel
theorem dX11_open_12 : decode cX11_open 12 = .ok (.getfield 128, 3) := by decide +kernel
theorem dX11_open_15 : decode cX11_open 15 = .ok (.invokevirtual 139, 3) := by decide +kernel
theorem dX11_open_18 : decode cX11_open 18 = .ok (.aload_n 0, 1) := by decide +kernel
theorem dX11_open_19 : decode cX11_open 19 = .ok (.dup, 1) := by decide +kernel
theorem dX11_open_20 : decode cX11_open 20 = .ok (.getfield 183, 3) := by decide +kernel
theorem dX11_open_23 : decode cX11_open 23 = .ok (.iconst 1, 1) := by decide +kernel
theorem dX11_open_24 : decode cX11_open 24 = .ok (.iadd, 1) := by decide +kernel
theorem dX11_open_25 : decode cX11_open 25 = .ok (.putfield 183, 3) := by decide +kernel
theorem dX11_open_28 : decode cX11_open 28 = .ok (.aload_n 0, 1) := by decide +kernel
theorem dX11_open_29 : decode cX11_open 29 = .ok (.dup, 1) := by decide +kernel
theorem dX11_open_30 : decode cX11_open 30 = .ok (.getfield 128, 3) := by decide +kernel
theorem dX11_open_33 : decode cX11_open 33 = .ok (.iconst 1, 1) := by decide +kernel
theorem dX11_open_34 : decode cX11_open 34 = .ok (.iadd, 1) := by decide +kernel
theorem dX11_open_35 : decode cX11_open 35 = .ok (.putfield 128, 3) := by decide +kernel
theorem dX11_open_38 : decode cX11_open 38 = .ok (.return_, 1) := by decide +kernel
theorem dX11_number_0 : decode cX11_number 0 = .ok (.aload_n 0, 1) := by decide +kernel
theorem dX11_number_1 : decode cX11_number 1 = .ok (.getfield 128, 3) := by decide +kernel
theorem dX11_number_4 : decode cX11_number 4 = .ok (.istore_n 1, 1) := by decide +kernel
theorem dX11_number_5 : decode cX11_number 5 = .ok (.lconst 0, 1) := by decide +kernel
theorem dX11_number_6 : decode cX11_number 6 = .ok (.lstore_n 2, 1) := by decide +kernel
theorem dX11_number_7 : decode cX11_number 7 = .ok (.aload_n 0, 1) := by decide +kernel
theorem dX11_number_8 : decode cX11_number 8 = .ok (.aload_n 0, 1) := by decide +kernel
theorem dX11_number_9 : decode cX11_number 9 = .ok (.getfield 128, 3) := by decide +kernel
theorem dX11_number_12 : decode cX11_number 12 = .ok (.invokevirtual 131, 3) := by decide +kernel
theorem dX11_number_15 : decode cX11_number 15 = .ok (.invokestatic 186, 3) := by decide +kernel
theorem dX11_number_18 : decode cX11_number 18 = .ok (.ifCond .eq 52, 3) := by decide +kernel
theorem dX11_number_21 : decode cX11_number 21 = .ok (.lload_n 2, 1) := by decide +kernel
theorem dX11_number_22 : decode cX11_number 22 = .ok (.ldc2_w 189, 3) := by decide +kernel
theorem dX11_number_25 : decode cX11_number 25 = .ok (.lmul, 1) := by decide +kernel
theorem dX11_number_26 : decode cX11_number 26 = .ok (.aload_n 0, 1) := by decide +kernel
theorem dX11_number_27 : decode cX11_number 27 = .ok (.aload_n 0, 1) := by decide +kernel
theorem dX11_number_28 : decode cX11_number 28 = .ok (.getfield 128, 3) := by decide +kernel
theorem dX11_number_31 : decode cX11_number 31 = .ok (.invokevirtual 131, 3) := by decide +kernel
theorem dX11_number_34 : decode cX11_number 34 = .ok (.i2l, 1) := by decide +kernel
theorem dX11_number_35 : decode cX11_number 35 = .ok (.ladd, 1) := by decide +kernel
theorem dX11_number_36 : decode cX11_number 36 = .ok (.ldc2_w 191, 3) := by decide +kernel
theorem dX11_number_39 : decode cX11_number 39 = .ok (.lsub, 1) := by decide +kernel
theorem dX11_number_40 : decode cX11_number 40 = .ok (.lstore_n 2, 1) := by decide +kernel
theorem dX11_number_41 : decode cX11_number 41 = .ok (.lload_n 2, 1) := by decide +kernel
theorem dX11_number_42 : decode cX11_number 42 = .ok (.ldc2_w 193, 3) := by decide +kernel
theorem dX11_number_45 : decode cX11_number 45 = .ok (.lcmp, 1) := by decide +kernel
theorem dX11_number_46 : decode cX11_number 46 = .ok (.ifCond .le 9, 3) := by decide +kernel
theorem dX11_number_49 : decode cX11_number 49 = .ok (.ldc2_w 193, 3) := by decide +kernel
theorem dX11_number_52 : decode cX11_number 52 = .ok (.goto 4, 3) := by decide +kernel
theorem dX11_number_55 : decode cX11_number 55 = .ok (.lload_n 2, 1) := by decide +kernel
theorem dX11_number_56 : decode cX11_number 56 = .ok (.lstore_n 2, 1) := by decide +kernel
theorem dX11_number_57 : decode cX11_number 57 = .ok (.aload_n 0, 1) := by decide +kernel
theorem dX11_number_58 : decode cX11_number 58 = .ok (.dup, 1) := by decide +kernel
theorem dX11_number_59 : decode cX11_number 59 = .ok (.getfield 128, 3) := by decide +kernel
theorem dX11_number_62 : decode cX11_number 62 = .ok (.iconst 1, 1) := by decide +kernel
theorem dX11_number_63 : decode cX11_number 63 = .ok (.iadd, 1) := by decide +kernel
theorem dX11_number_64 : decode cX11_number 64 = .ok (.putfield 128, 3) := by decide +kernel
theorem dX11_number_67 : decode cX11_number 67 = .ok (.goto (-60), 3) := by decide +kernel
theorem dX11_number_70 : decode cX11_number 70 = .ok (.lload_n 2, 1) := by decide +kernel
theorem dX11_number_71 : decode cX11_number 71 = .ok (.ldc2_w 195, 3) := by decide +kernel
theorem dX11_number_74 : decode cX11_number 74 = .ok (.lcmp, 1) := by decide +kernel
theorem dX11_number_75 : decode cX11_number 75 = .ok (.ifCond .le 9, 3) := by decide +kernel
theorem dX11_number_78 : decode cX11_number 78 = .ok (.aload_n 0, 1) := by decide +kernel
theorem dX11_number_79 : decode cX11_number 79 = .ok (.iconst 2, 1) := by decide +kernel
theorem dX11_number_80 : decode cX11_number 80 = .ok (.iload_n 1, 1) := by decide +kernel
theorem dX11_number_81 : decode cX11_number 81 = .ok (.invokevirtual 139, 3) := by decide +kernel
theorem dX11_number_84 : decode cX11_number 84 = .ok (.aload_n 0, 1) := by decide +kernel
theorem dX11_number_85 : decode cX11_number 85 = .ok (.iconst 1, 1) := by decide +kernel
theorem dX11_number_86 : decode cX11_number 86 = .ok (.putfield 177, 3) := by decide +kernel
theorem dX11_number_89 : decode cX11_number 89 = .ok (.aload_n 0, 1) := by decide +kernel
theorem dX11_number_90 : decode cX11_number 90 = .ok (.lload_n 2, 1) := by decide +kernel
theorem dX11_number_91 : decode cX11_number 91 = .ok (.l2i, 1) := by decide +kernel
theorem dX11_number_92 : decode cX11_number 92 = .ok (.putfield 180, 3) := by decide +kernel
theorem dX11_number_95 : decode cX11_number 95 = .ok (.return_, 1) := by decide +kernel
theorem dX11_factor_0 : decode cX11_factor 0 = .ok (.aload_n 0, 1) := by decide +kernel
theorem dX11_factor_1 : decode cX11_factor 1 = .ok (.invokevirtual 135, 3) := by decide +kernel
theorem dX11_factor_4 : decode cX11_factor 4 = .ok (.istore_n 1, 1) := by decide +kernel
theorem dX11_factor_5 : decode cX11_factor 5 = .ok (.aload_n 0, 1) := by decide +kernel
theorem dX11_factor_6 : decode cX11_factor 6 = .ok (.getfield 128, 3) := by decide +kernel
theorem dX11_factor_9 : decode cX11_factor 9 = .ok (.istore_n 2, 1) := by decide +kernel
theorem dX11_factor_10 : decode cX11_factor 10 = .ok (.aload_n 0, 1) := by decide +kernel
theorem dX11_factor_11 : decode cX11_factor 11 = .ok (.getfield 125, 3) := by decide +kernel
theorem dX11_factor_14 : decode cX11_factor 14 = .ok (.ifCond .le 4, 3) := by decide +kernel
theorem dX11_factor_17 : decode cX11_factor 17 = .ok (.return_, 1) := by decide +kernel
theorem dX11_factor_18 : decode cX11_factor 18 = .ok (.iload_n 1, 1) := by decide +kernel
theorem dX11_factor_19 : decode cX11_factor 19 = .ok (.invokestatic 186, 3) := by decide +kernel
theorem dX11_factor_22 : decode cX11_factor 22 = .ok (.ifCond .eq 10, 3) := by decide +kernel
theorem dX11_factor_25 : decode cX11_factor 25 = .ok (.aload_n 0, 1) := by decide +kernel
theorem dX11_factor_26 : decode cX11_factor 26 = .ok (.invokevirtual 197, 3) := by decide +kernel
theorem dX11_factor_29 : decode cX11_factor 29 = .ok (.goto 184, 3) := by decide +kernel
theorem dX11_factor_32 : decode cX11_factor 32 = .ok (.iload_n 1, 1) := by decide +kernel
theorem dX11_factor_33 : decode cX11_factor 33 = .ok (.bipush 40, 2) := by decide +kernel
theorem dX11_factor_35 : decode cX11_factor 35 = .ok (.if_icmp .ne 30, 3) := by decide +kernel
theorem dX11_factor_38 : decode cX11_factor 38 = .ok (.aload_n 0, 1) := by decide +kernel
theorem dX11_factor_39 : decode cX11_factor 39 = .ok (.invokevirtual 200, 3) := by decide +kernel
theorem dX11_factor_42 : decode cX11_factor 42 = .ok (.aload_n 0, 1) := by decide +kernel
theorem dX11_factor_43 : decode cX11_factor 43 = .ok (.invokevirtual 203, 3) := by decide +kernel
theorem dX11_factor_46 : decode cX11_factor 46 = .ok (.aload_n 0, 1) := by decide +kernel
theorem dX11_factor_47 : decode cX11_factor 47 = .ok (.bipush 41, 2) := by decide +kernel
theorem dX11_factor_49 : decode cX11_factor 49 = .ok (.invokevirtual 206, 3) := by decide +kernel
theorem dX11_factor_52 : decode cX11_factor 52 = .ok (.aload_n 0, 1) := by decide +kernel
theorem dX11_factor_53 : decode cX11_factor 53 = .ok (.dup, 1) := by decide +kernel
theorem dX11_factor_54 : decode cX11_factor 54 = .ok (.getfield 183, 3) := by decide +kernel
theorem dX11_factor_57 : decode cX11_factor 57 = .ok (.iconst 1, 1) := by decide +kernel
theorem dX11_factor_58 : decode cX11_factor 58 = .ok (.isub, 1) := by decide +kernel
theorem dX11_factor_59 : decode cX11_factor 59 = .ok (.putfield 183, 3) := by decide +kernel
theorem dX11_factor_62 : decode cX11_factor 62 = .ok (.goto 151, 3) := by decide +kernel
theorem dX11_factor_65 : decode cX11_factor 65 = .ok (.iload_n 1, 1) := by decide +kernel
theorem dX11_factor_66 : decode cX11_factor 66 = .ok (.invokestatic 143, 3) := by decide +kernel
theorem dX11_factor_69 : decode cX11_factor 69 = .ok (.ifCond .eq 37, 3) := by decide +kernel
theorem dX11_factor_72 : decode cX11_factor 72 = .ok (.aload_n 0, 1) := by decide +kernel
theorem dX11_factor_73 : decode cX11_factor 73 = .ok (.invokevirtual 210, 3) := by decide +kernel
theorem dX11_factor_76 : decode cX11_factor 76 = .ok (.iconst 4, 1) := by decide +kernel
theorem dX11_factor_77 : decode cX11_factor 77 = .ok (.if_icmp .ne 29, 3) := by decide +kernel
theorem dX11_factor_80 : decode cX11_factor 80 = .ok (.aload_n 0, 1) := by decide +kernel
theorem dX11_factor_81 : decode cX11_factor 81 = .ok (.iconst 2, 1) := by decide +kernel
theorem dX11_factor_82 : decode cX11_factor 82 = .ok (.putfield 177, 3) := by decide +kernel
theorem dX11_factor_85 : decode cX11_factor 85 = .ok (.aload_n 0, 1) := by decide +kernel
theorem dX11_factor_86 : decode cX11_factor 86 = .ok (.iload_n 1, 1) := by decide +kernel
theorem dX11_factor_87 : decode cX11_factor 87 = .ok (.bipush 97, 2) := by decide +kernel
theorem dX11_factor_89 : decode cX11_factor 89 = .ok (.isub, 1) := by decide +kernel
theorem dX11_factor_90 : decode cX11_factor 90 = .ok (.putfield 180, 3) := by decide +kernel
theorem dX11_factor_93 : decode cX11_factor 93 = .ok (.aload_n 0, 1) := by decide +kernel
theorem dX11_factor_94 : decode cX11_factor 94 = .ok (.dup, 1) := by decide +kernel
theorem dX11_factor_95 : decode cX11_factor 95 = .ok (.getfield 128, 3) := by decide +kernel
theorem dX11_factor_98 : decode cX11_factor 98 = .ok (.iconst 1, 1) := by decide +kernel
theorem dX11_factor_99 : decode cX11_factor 99 = .ok (.iadd, 1) := by decide +kernel
theorem dX11_factor_100 : decode cX11_factor 100 = .ok (.putfield 128, 3) := by decide +kernel
theorem dX11_factor_103 : decode cX11_factor 103 = .ok (.goto 110, 3) := by decide +kernel
theorem dX11_factor_106 : decode cX11_factor 106 = .ok (.iload_n 1, 1) := by decide +kernel
theorem dX11_factor_107 : decode cX11_factor 107 = .ok (.invokestatic 143, 3) := by decide +kernel
theorem dX11_factor_110 : decode cX11_factor 110 = .ok (.ifCond .eq 94, 3) := by decide +kernel
theorem dX11_factor_113 : decode cX11_factor 113 = .ok (.aload_n 0, 1) := by decide +kernel
theorem dX11_factor_114 : decode cX11_factor 114 = .ok (.invokevirtual 210, 3) := by decide +kernel
theorem dX11_factor_117 : decode cX11_factor 117 = .ok (.iconst 5, 1) := by decide +kernel
theorem dX11_factor_118 : decode cX11_factor 118 = .ok (.if_icmp .ne 86, 3) := by decide +kernel
theorem dX11_factor_121 : decode cX11_factor 121 = .ok (.aload_n 0, 1) := by decide +kernel
theorem dX11_factor_122 : decode cX11_factor 122 = .ok (.dup, 1) := by decide +kernel
theorem dX11_factor_123 : decode cX11_factor 123 = .ok (.getfield 128, 3) := by decide +kernel
theorem dX11_factor_126 : decode cX11_factor 126 = .ok (.iconst 1, 1) := by decide +kernel
theorem dX11_factor_127 : decode cX11_factor 127 = .ok (.iadd, 1) := by decide +kernel
theorem dX11_factor_128 : decode cX11_factor 128 = .ok (.putfield 128, 3) := by decide +kernel
theorem dX11_factor_131 : decode cX11_factor 131 = .ok (.aload_n 0, 1) := by decide +kernel
theorem dX11_factor_132 : decode cX11_factor 132 = .ok (.invokevirtual 135, 3) := by decide +kernel
theorem dX11_factor_135 : decode cX11_factor 135 = .ok (.bipush 91, 2) := by decide +kernel
theorem dX11_factor_137 : decode cX11_factor 137 = .ok (.if_icmp .eq 13, 3) := by decide +kernel
theorem dX11_factor_140 : decode cX11_factor 140 = .ok (.aload_n 0, 1) := by decide +kernel
theorem dX11_factor_141 : decode cX11_factor 141 = .ok (.iconst 1, 1) := by decide +kernel
theorem dX11_factor_142 : decode cX11_factor 142 = .ok (.aload_n 0, 1) := by decide +kernel
theorem dX11_factor_143 : decode cX11_factor 143 = .ok (.getfield 128, 3) := by decide +kernel
theorem dX11_factor_146 : decode cX11_factor 146 = .ok (.invokevirtual 139, 3) := by decide +kernel
theorem dX11_factor_149 : decode cX11_factor 149 = .ok (.return_, 1) := by decide +kernel
theorem dX11_factor_150 : decode cX11_factor 150 = .ok (.aload_n 0, 1) := by decide +kernel
theorem dX11_factor_151 : decode cX11_factor 151 = .ok (.invokevirtual 200, 3) := by decide +kernel
theorem dX11_factor_154 : decode cX11_factor 154 = .ok (.aload_n 0, 1) := by decide +kernel
theorem dX11_factor_155 : decode cX11_factor 155 = .ok (.invokevirtual 203, 3) := by decide +kernel
theorem dX11_factor_158 : decode cX11_factor 158 = .ok (.aload_n 0, 1) := by decide +kernel
theorem dX11_factor_159 : decode cX11_factor 159 = .ok (.bipush 93, 2) := by decide +kernel
theorem dX11_factor_161 : decode cX11_factor 161 = .ok (.invokevirtual 206, 3) := by decide +kernel
theorem dX11_factor_164 : decode cX11_factor 164 = .ok (.aload_n 0, 1) := by decide +kernel
theorem dX11_factor_165 : decode cX11_factor 165 = .ok (.dup, 1) := by decide +kernel
theorem dX11_factor_166 : decode cX11_factor 166 = .ok (.getfield 183, 3) := by decide +kernel
theorem dX11_factor_169 : decode cX11_factor 169 = .ok (.iconst 1, 1) := by decide +kernel
theorem dX11_factor_170 : decode cX11_factor 170 = .ok (.isub, 1) := by decide +kernel
theorem dX11_factor_171 : decode cX11_factor 171 = .ok (.putfield 183, 3) := by decide +kernel
theorem dX11_factor_174 : decode cX11_factor 174 = .ok (.aload_n 0, 1) := by decide +kernel
theorem dX11_factor_175 : decode cX11_factor 175 = .ok (.getfield 177, 3) := by decide +kernel
theorem dX11_factor_178 : decode cX11_factor 178 = .ok (.istore_n 3, 1) := by decide +kernel
theorem dX11_factor_179 : decode cX11_factor 179 = .ok (.aload_n 0, 1) := by decide +kernel
theorem dX11_factor_180 : decode cX11_factor 180 = .ok (.getfield 180, 3) := by decide +kernel
theorem dX11_factor_183 : decode cX11_factor 183 = .ok (.istore 4, 2) := by decide +kernel
theorem dX11_factor_185 : decode cX11_factor 185 = .ok (.aload_n 0, 1) := by decide +kernel
theorem dX11_factor_186 : decode cX11_factor 186 = .ok (.iconst 0, 1) := by decide +kernel
theorem dX11_factor_187 : decode cX11_factor 187 = .ok (.putfield 177, 3) := by decide +kernel
theorem dX11_factor_190 : decode cX11_factor 190 = .ok (.aload_n 0, 1) := by decide +kernel
theorem dX11_factor_191 : decode cX11_factor 191 = .ok (.iconst 5, 1) := by decide +kernel
theorem dX11_factor_192 : decode cX11_factor 192 = .ok (.iload_n 2, 1) := by decide +kernel
theorem dX11_factor_193 : decode cX11_factor 193 = .ok (.iload_n 3, 1) := by decide +kernel
theorem dX11_factor_194 : decode cX11_factor 194 = .ok (.iload 4, 2) := by decide +kernel
theorem dX11_factor_196 : decode cX11_factor 196 = .ok (.invokevirtual 213, 3) := by decide +kernel
theorem dX11_factor_199 : decode cX11_factor 199 = .ok (.istore 5, 2) := by decide +kernel
theorem dX11_factor_201 : decode cX11_factor 201 = .ok (.goto 12, 3) := by decide +kernel
theorem dX11_factor_204 : decode cX11_factor 204 = .ok (.aload_n 0, 1) := by decide +kernel
theorem dX11_factor_205 : decode cX11_factor 205 = .ok (.iconst 1, 1) := by decide +kernel
theorem dX11_factor_206 : decode cX11_factor 206 = .ok (.aload_n 0, 1) := by decide +kernel
theorem dX11_factor_207 : decode cX11_factor 207 = .ok (.getfield 128, 3) := by decide +kernel
theorem dX11_factor_210 : decode cX11_factor 210 = .ok (.invokevirtual 139, 3) := by decide +kernel
theorem dX11_factor_213 : decode cX11_factor 213 = .ok (.return_, 1) := by decide +kernel
theorem dX11_join_0 : decode cX11_join 0 = .ok (.aload_n 0, 1) := by decide +kernel
theorem dX11_join_1 : decode cX11_join 1 = .ok (.getfield 125, 3) := by decide +kernel
theorem dX11_join_4 : decode cX11_join 4 = .ok (.ifCond .ne 14, 3) := by decide +kernel
theorem dX11_join_7 : decode cX11_join 7 = .ok (.aload_n 0, 1) := by decide +kernel
theorem dX11_join_8 : decode cX11_join 8 = .ok (.iload_n 1, 1) := by decide +kernel
theorem dX11_join_9 : decode cX11_join 9 = .ok (.iload_n 2, 1) := by decide +kernel
theorem dX11_join_10 : decode cX11_join 10 = .ok (.iload_n 3, 1) := by decide +kernel
theorem dX11_join_11 : decode cX11_join 11 = .ok (.iload 4, 2) := by decide +kernel
theorem dX11_join_13 : decode cX11_join 13 = .ok (.invokevirtual 213, 3) := by decide +kernel
theorem dX11_join_16 : decode cX11_join 16 = .ok (.istore 5, 2) := by decide +kernel
theorem dX11_join_18 : decode cX11_join 18 = .ok (.return_, 1) := by decide +kernel
theorem dX11_term_0 : decode cX11_term 0 = .ok (.aload_n 0, 1) := by decide +kernel
theorem dX11_term_1 : decode cX11_term 1 = .ok (.invokevirtual 217, 3) := by decide +kernel
theorem dX11_term_4 : decode cX11_term 4 = .ok (.aload_n 0, 1) := by decide +kernel
theorem dX11_term_5 : decode cX11_term 5 = .ok (.getfield 125, 3) := by decide +kernel
theorem dX11_term_8 : decode cX11_term 8 = .ok (.ifCond .ne 52, 3) := by decide +kernel
theorem dX11_term_11 : decode cX11_term 11 = .ok (.aload_n 0, 1) := by decide +kernel
theorem dX11_term_12 : decode cX11_term 12 = .ok (.invokevirtual 135, 3) := by decide +kernel
theorem dX11_term_15 : decode cX11_term 15 = .ok (.bipush 42, 2) := by decide +kernel
theorem dX11_term_17 : decode cX11_term 17 = .ok (.if_icmp .ne 43, 3) := by decide +kernel
theorem dX11_term_20 : decode cX11_term 20 = .ok (.aload_n 0, 1) := by decide +kernel
theorem dX11_term_21 : decode cX11_term 21 = .ok (.getfield 128, 3) := by decide +kernel
theorem dX11_term_24 : decode cX11_term 24 = .ok (.istore_n 1, 1) := by decide +kernel
theorem dX11_term_25 : decode cX11_term 25 = .ok (.aload_n 0, 1) := by decide +kernel
theorem dX11_term_26 : decode cX11_term 26 = .ok (.getfield 177, 3) := by decide +kernel
theorem dX11_term_29 : decode cX11_term 29 = .ok (.istore_n 2, 1) := by decide +kernel
theorem dX11_term_30 : decode cX11_term 30 = .ok (.aload_n 0, 1) := by decide +kernel
theorem dX11_term_31 : decode cX11_term 31 = .ok (.getfield 180, 3) := by decide +kernel
theorem dX11_term_34 : decode cX11_term 34 = .ok (.istore_n 3, 1) := by decide +kernel
theorem dX11_term_35 : decode cX11_term 35 = .ok (.aload_n 0, 1) := by decide +kernel
theorem dX11_term_36 : decode cX11_term 36 = .ok (.dup, 1) := by decide +kernel
theorem dX11_term_37 : decode cX11_term 37 = .ok (.getfield 128, 3) := by decide +kernel
theorem dX11_term_40 : decode cX11_term 40 = .ok (.iconst 1, 1) := by decide +kernel
theorem dX11_term_41 : decode cX11_term 41 = .ok (.iadd, 1) := by decide +kernel
theorem dX11_term_42 : decode cX11_term 42 = .ok (.putfield 128, 3) := by decide +kernel
theorem dX11_term_45 : decode cX11_term 45 = .ok (.aload_n 0, 1) := by decide +kernel
theorem dX11_term_46 : decode cX11_term 46 = .ok (.invokevirtual 217, 3) := by decide +kernel
theorem dX11_term_49 : decode cX11_term 49 = .ok (.aload_n 0, 1) := by decide +kernel
theorem dX11_term_50 : decode cX11_term 50 = .ok (.iconst 2, 1) := by decide +kernel
theorem dX11_term_51 : decode cX11_term 51 = .ok (.iload_n 1, 1) := by decide +kernel
theorem dX11_term_52 : decode cX11_term 52 = .ok (.iload_n 2, 1) := by decide +kernel
theorem dX11_term_53 : decode cX11_term 53 = .ok (.iload_n 3, 1) := by decide +kernel
theorem dX11_term_54 : decode cX11_term 54 = .ok (.invokevirtual 220, 3) := by decide +kernel
theorem dX11_term_57 : decode cX11_term 57 = .ok (.goto (-53), 3) := by decide +kernel
theorem dX11_term_60 : decode cX11_term 60 = .ok (.return_, 1) := by decide +kernel
theorem dX11_sum_0 : decode cX11_sum 0 = .ok (.aload_n 0, 1) := by decide +kernel
theorem dX11_sum_1 : decode cX11_sum 1 = .ok (.invokevirtual 224, 3) := by decide +kernel
theorem dX11_sum_4 : decode cX11_sum 4 = .ok (.aload_n 0, 1) := by decide +kernel
theorem dX11_sum_5 : decode cX11_sum 5 = .ok (.getfield 125, 3) := by decide +kernel
theorem dX11_sum_8 : decode cX11_sum 8 = .ok (.ifCond .ne 82, 3) := by decide +kernel
theorem dX11_sum_11 : decode cX11_sum 11 = .ok (.aload_n 0, 1) := by decide +kernel
theorem dX11_sum_12 : decode cX11_sum 12 = .ok (.invokevirtual 135, 3) := by decide +kernel
theorem dX11_sum_15 : decode cX11_sum 15 = .ok (.bipush 43, 2) := by decide +kernel
theorem dX11_sum_17 : decode cX11_sum 17 = .ok (.if_icmp .eq 12, 3) := by decide +kernel
theorem dX11_sum_20 : decode cX11_sum 20 = .ok (.aload_n 0, 1) := by decide +kernel
theorem dX11_sum_21 : decode cX11_sum 21 = .ok (.invokevirtual 135, 3) := by decide +kernel
theorem dX11_sum_24 : decode cX11_sum 24 = .ok (.bipush 45, 2) := by decide +kernel
theorem dX11_sum_26 : decode cX11_sum 26 = .ok (.if_icmp .ne 64, 3) := by decide +kernel
theorem dX11_sum_29 : decode cX11_sum 29 = .ok (.aload_n 0, 1) := by decide +kernel
theorem dX11_sum_30 : decode cX11_sum 30 = .ok (.getfield 128, 3) := by decide +kernel
theorem dX11_sum_33 : decode cX11_sum 33 = .ok (.istore_n 1, 1) := by decide +kernel
theorem dX11_sum_34 : decode cX11_sum 34 = .ok (.aload_n 0, 1) := by decide +kernel
theorem dX11_sum_35 : decode cX11_sum 35 = .ok (.aload_n 0, 1) := by decide +kernel
theorem dX11_sum_36 : decode cX11_sum 36 = .ok (.getfield 128, 3) := by decide +kernel
theorem dX11_sum_39 : decode cX11_sum 39 = .ok (.invokevirtual 131, 3) := by decide +kernel
theorem dX11_sum_42 : decode cX11_sum 42 = .ok (.bipush 43, 2) := by decide +kernel
theorem dX11_sum_44 : decode cX11_sum 44 = .ok (.if_icmp .ne 7, 3) := by decide +kernel
theorem dX11_sum_47 : decode cX11_sum 47 = .ok (.iconst 0, 1) := by decide +kernel
theorem dX11_sum_48 : decode cX11_sum 48 = .ok (.goto 4, 3) := by decide +kernel
theorem dX11_sum_51 : decode cX11_sum 51 = .ok (.iconst 1, 1) := by decide +kernel
theorem dX11_sum_52 : decode cX11_sum 52 = .ok (.istore_n 2, 1) := by decide +kernel
theorem dX11_sum_53 : decode cX11_sum 53 = .ok (.aload_n 0, 1) := by decide +kernel
theorem dX11_sum_54 : decode cX11_sum 54 = .ok (.getfield 177, 3) := by decide +kernel
theorem dX11_sum_57 : decode cX11_sum 57 = .ok (.istore_n 3, 1) := by decide +kernel
theorem dX11_sum_58 : decode cX11_sum 58 = .ok (.aload_n 0, 1) := by decide +kernel
theorem dX11_sum_59 : decode cX11_sum 59 = .ok (.getfield 180, 3) := by decide +kernel
theorem dX11_sum_62 : decode cX11_sum 62 = .ok (.istore 4, 2) := by decide +kernel
theorem dX11_sum_64 : decode cX11_sum 64 = .ok (.aload_n 0, 1) := by decide +kernel
theorem dX11_sum_65 : decode cX11_sum 65 = .ok (.dup, 1) := by decide +kernel
theorem dX11_sum_66 : decode cX11_sum 66 = .ok (.getfield 128, 3) := by decide +kernel
theorem dX11_sum_69 : decode cX11_sum 69 = .ok (.iconst 1, 1) := by decide +kernel
theorem dX11_sum_70 : decode cX11_sum 70 = .ok (.iadd, 1) := by decide +kernel
theorem dX11_sum_71 : decode cX11_sum 71 = .ok (.putfield 128, 3) := by decide +kernel
theorem dX11_sum_74 : decode cX11_sum 74 = .ok (.aload_n 0, 1) := by decide +kernel
theorem dX11_sum_75 : decode cX11_sum 75 = .ok (.invokevirtual 224, 3) := by decide +kernel
theorem dX11_sum_78 : decode cX11_sum 78 = .ok (.aload_n 0, 1) := by decide +kernel
theorem dX11_sum_79 : decode cX11_sum 79 = .ok (.iload_n 2, 1) := by decide +kernel
theorem dX11_sum_80 : decode cX11_sum 80 = .ok (.iload_n 1, 1) := by decide +kernel
theorem dX11_sum_81 : decode cX11_sum 81 = .ok (.iload_n 3, 1) := by decide +kernel
theorem dX11_sum_82 : decode cX11_sum 82 = .ok (.iload 4, 2) := by decide +kernel
theorem dX11_sum_84 : decode cX11_sum 84 = .ok (.invokevirtual 220, 3) := by decide +kernel
theorem dX11_sum_87 : decode cX11_sum 87 = .ok (.goto (-83), 3) := by decide +kernel
theorem dX11_sum_90 : decode cX11_sum 90 = .ok (.return_, 1) := by decide +kernel
theorem dX11_expression_0 : decode cX11_expression 0 = .ok (.aload_n 0, 1) := by decide +kernel
theorem dX11_expression_1 : decode cX11_expression 1 = .ok (.invokevirtual 227, 3) := by decide +kernel
theorem dX11_expression_4 : decode cX11_expression 4 = .ok (.aload_n 0, 1) := by decide +kernel
theorem dX11_expression_5 : decode cX11_expression 5 = .ok (.getfield 125, 3) := by decide +kernel
theorem dX11_expression_8 : decode cX11_expression 8 = .ok (.ifCond .ne 79, 3) := by decide +kernel
theorem dX11_expression_11 : decode cX11_expression 11 = .ok (.aload_n 0, 1) := by decide +kernel
theorem dX11_expression_12 : decode cX11_expression 12 = .ok (.invokevirtual 135, 3) := by decide +kernel
theorem dX11_expression_15 : decode cX11_expression 15 = .ok (.bipush 60, 2) := by decide +kernel
theorem dX11_expression_17 : decode cX11_expression 17 = .ok (.if_icmp .eq 12, 3) := by decide +kernel
theorem dX11_expression_20 : decode cX11_expression 20 = .ok (.aload_n 0, 1) := by decide +kernel
theorem dX11_expression_21 : decode cX11_expression 21 = .ok (.invokevirtual 135, 3) := by decide +kernel
theorem dX11_expression_24 : decode cX11_expression 24 = .ok (.bipush 61, 2) := by decide +kernel
theorem dX11_expression_26 : decode cX11_expression 26 = .ok (.if_icmp .ne 61, 3) := by decide +kernel
theorem dX11_expression_29 : decode cX11_expression 29 = .ok (.aload_n 0, 1) := by decide +kernel
theorem dX11_expression_30 : decode cX11_expression 30 = .ok (.getfield 128, 3) := by decide +kernel
theorem dX11_expression_33 : decode cX11_expression 33 = .ok (.istore_n 1, 1) := by decide +kernel
theorem dX11_expression_34 : decode cX11_expression 34 = .ok (.aload_n 0, 1) := by decide +kernel
theorem dX11_expression_35 : decode cX11_expression 35 = .ok (.aload_n 0, 1) := by decide +kernel
theorem dX11_expression_36 : decode cX11_expression 36 = .ok (.getfield 128, 3) := by decide +kernel
theorem dX11_expression_39 : decode cX11_expression 39 = .ok (.invokevirtual 131, 3) := by decide +kernel
theorem dX11_expression_42 : decode cX11_expression 42 = .ok (.bipush 60, 2) := by decide +kernel
theorem dX11_expression_44 : decode cX11_expression 44 = .ok (.if_icmp .ne 7, 3) := by decide +kernel
theorem dX11_expression_47 : decode cX11_expression 47 = .ok (.iconst 3, 1) := by decide +kernel
theorem dX11_expression_48 : decode cX11_expression 48 = .ok (.goto 4, 3) := by decide +kernel
theorem dX11_expression_51 : decode cX11_expression 51 = .ok (.iconst 4, 1) := by decide +kernel
theorem dX11_expression_52 : decode cX11_expression 52 = .ok (.istore_n 2, 1) := by decide +kernel
theorem dX11_expression_53 : decode cX11_expression 53 = .ok (.aload_n 0, 1) := by decide +kernel
theorem dX11_expression_54 : decode cX11_expression 54 = .ok (.getfield 177, 3) := by decide +kernel
theorem dX11_expression_57 : decode cX11_expression 57 = .ok (.istore_n 3, 1) := by decide +kernel
theorem dX11_expression_58 : decode cX11_expression 58 = .ok (.aload_n 0, 1) := by decide +kernel
theorem dX11_expression_59 : decode cX11_expression 59 = .ok (.getfield 180, 3) := by decide +kernel
theorem dX11_expression_62 : decode cX11_expression 62 = .ok (.istore 4, 2) := by decide +kernel
theorem dX11_expression_64 : decode cX11_expression 64 = .ok (.aload_n 0, 1) := by decide +kernel
theorem dX11_expression_65 : decode cX11_expression 65 = .ok (.dup, 1) := by decide +kernel
theorem dX11_expression_66 : decode cX11_expression 66 = .ok (.getfield 128, 3) := by decide +kernel
theorem dX11_expression_69 : decode cX11_expression 69 = .ok (.iconst 1, 1) := by decide +kernel
theorem dX11_expression_70 : decode cX11_expression 70 = .ok (.iadd, 1) := by decide +kernel
theorem dX11_expression_71 : decode cX11_expression 71 = .ok (.putfield 128, 3) := by decide +kernel
theorem dX11_expression_74 : decode cX11_expression 74 = .ok (.aload_n 0, 1) := by decide +kernel
theorem dX11_expression_75 : decode cX11_expression 75 = .ok (.invokevirtual 227, 3) := by decide +kernel
theorem dX11_expression_78 : decode cX11_expression 78 = .ok (.aload_n 0, 1) := by decide +kernel
theorem dX11_expression_79 : decode cX11_expression 79 = .ok (.iload_n 2, 1) := by decide +kernel
theorem dX11_expression_80 : decode cX11_expression 80 = .ok (.iload_n 1, 1) := by decide +kernel
theorem dX11_expression_81 : decode cX11_expression 81 = .ok (.iload_n 3, 1) := by decide +kernel
theorem dX11_expression_82 : decode cX11_expression 82 = .ok (.iload 4, 2) := by decide +kernel
theorem dX11_expression_84 : decode cX11_expression 84 = .ok (.invokevirtual 220, 3) := by decide +kernel
theorem dX11_expression_87 : decode cX11_expression 87 = .ok (.return_, 1) := by decide +kernel
theorem dX11_assignment_0 : decode cX11_assignment 0 = .ok (.aload_n 0, 1) := by decide +kernel
theorem dX11_assignment_1 : decode cX11_assignment 1 = .ok (.getfield 128, 3) := by decide +kernel
theorem dX11_assignment_4 : decode cX11_assignment 4 = .ok (.istore_n 1, 1) := by decide +kernel
theorem dX11_assignment_5 : decode cX11_assignment 5 = .ok (.aload_n 0, 1) := by decide +kernel
theorem dX11_assignment_6 : decode cX11_assignment 6 = .ok (.invokevirtual 135, 3) := by decide +kernel
theorem dX11_assignment_9 : decode cX11_assignment 9 = .ok (.bipush 97, 2) := by decide +kernel
theorem dX11_assignment_11 : decode cX11_assignment 11 = .ok (.isub, 1) := by decide +kernel
theorem dX11_assignment_12 : decode cX11_assignment 12 = .ok (.istore_n 2, 1) := by decide +kernel
theorem dX11_assignment_13 : decode cX11_assignment 13 = .ok (.aload_n 0, 1) := by decide +kernel
theorem dX11_assignment_14 : decode cX11_assignment 14 = .ok (.dup, 1) := by decide +kernel
theorem dX11_assignment_15 : decode cX11_assignment 15 = .ok (.getfield 128, 3) := by decide +kernel
theorem dX11_assignment_18 : decode cX11_assignment 18 = .ok (.iconst 1, 1) := by decide +kernel
theorem dX11_assignment_19 : decode cX11_assignment 19 = .ok (.iadd, 1) := by decide +kernel
theorem dX11_assignment_20 : decode cX11_assignment 20 = .ok (.putfield 128, 3) := by decide +kernel
theorem dX11_assignment_23 : decode cX11_assignment 23 = .ok (.aload_n 0, 1) := by decide +kernel
theorem dX11_assignment_24 : decode cX11_assignment 24 = .ok (.bipush 61, 2) := by decide +kernel
theorem dX11_assignment_26 : decode cX11_assignment 26 = .ok (.invokevirtual 206, 3) := by decide +kernel
theorem dX11_assignment_29 : decode cX11_assignment 29 = .ok (.aload_n 0, 1) := by decide +kernel
theorem dX11_assignment_30 : decode cX11_assignment 30 = .ok (.getfield 171, 3) := by decide +kernel
theorem dX11_assignment_33 : decode cX11_assignment 33 = .ok (.istore_n 3, 1) := by decide +kernel
theorem dX11_assignment_34 : decode cX11_assignment 34 = .ok (.aload_n 0, 1) := by decide +kernel
theorem dX11_assignment_35 : decode cX11_assignment 35 = .ok (.invokevirtual 203, 3) := by decide +kernel
theorem dX11_assignment_38 : decode cX11_assignment 38 = .ok (.aload_n 0, 1) := by decide +kernel
theorem dX11_assignment_39 : decode cX11_assignment 39 = .ok (.bipush 59, 2) := by decide +kernel
theorem dX11_assignment_41 : decode cX11_assignment 41 = .ok (.invokevirtual 206, 3) := by decide +kernel
theorem dX11_assignment_44 : decode cX11_assignment 44 = .ok (.aload_n 0, 1) := by decide +kernel
theorem dX11_assignment_45 : decode cX11_assignment 45 = .ok (.getfield 125, 3) := by decide +kernel
theorem dX11_assignment_48 : decode cX11_assignment 48 = .ok (.ifCond .le 4, 3) := by decide +kernel
theorem dX11_assignment_51 : decode cX11_assignment 51 = .ok (.return_, 1) := by decide +kernel
theorem dX11_assignment_52 : decode cX11_assignment 52 = .ok (.aload_n 0, 1) := by decide +kernel
theorem dX11_assignment_53 : decode cX11_assignment 53 = .ok (.getfield 171, 3) := by decide +kernel
theorem dX11_assignment_56 : decode cX11_assignment 56 = .ok (.iload_n 3, 1) := by decide +kernel
theorem dX11_assignment_57 : decode cX11_assignment 57 = .ok (.if_icmp .ne 33, 3) := by decide +kernel
theorem dX11_assignment_60 : decode cX11_assignment 60 = .ok (.aload_n 0, 1) := by decide +kernel
theorem dX11_assignment_61 : decode cX11_assignment 61 = .ok (.getfield 177, 3) := by decide +kernel
theorem dX11_assignment_64 : decode cX11_assignment 64 = .ok (.istore 4, 2) := by decide +kernel
theorem dX11_assignment_66 : decode cX11_assignment 66 = .ok (.aload_n 0, 1) := by decide +kernel
theorem dX11_assignment_67 : decode cX11_assignment 67 = .ok (.getfield 180, 3) := by decide +kernel
theorem dX11_assignment_70 : decode cX11_assignment 70 = .ok (.istore 5, 2) := by decide +kernel
theorem dX11_assignment_72 : decode cX11_assignment 72 = .ok (.aload_n 0, 1) := by decide +kernel
theorem dX11_assignment_73 : decode cX11_assignment 73 = .ok (.iconst 0, 1) := by decide +kernel
theorem dX11_assignment_74 : decode cX11_assignment 74 = .ok (.putfield 177, 3) := by decide +kernel
theorem dX11_assignment_77 : decode cX11_assignment 77 = .ok (.aload_n 0, 1) := by decide +kernel
theorem dX11_assignment_78 : decode cX11_assignment 78 = .ok (.bipush 7, 2) := by decide +kernel
theorem dX11_assignment_80 : decode cX11_assignment 80 = .ok (.iload_n 1, 1) := by decide +kernel
theorem dX11_assignment_81 : decode cX11_assignment 81 = .ok (.iload 4, 2) := by decide +kernel
theorem dX11_assignment_83 : decode cX11_assignment 83 = .ok (.iload 5, 2) := by decide +kernel
theorem dX11_assignment_85 : decode cX11_assignment 85 = .ok (.invokevirtual 213, 3) := by decide +kernel
theorem dX11_assignment_88 : decode cX11_assignment 88 = .ok (.istore 6, 2) := by decide +kernel
theorem dX11_assignment_90 : decode cX11_assignment 90 = .ok (.aload_n 0, 1) := by decide +kernel
theorem dX11_assignment_91 : decode cX11_assignment 91 = .ok (.getfield 125, 3) := by decide +kernel
theorem dX11_assignment_94 : decode cX11_assignment 94 = .ok (.ifCond .ne 15, 3) := by decide +kernel
theorem dX11_assignment_97 : decode cX11_assignment 97 = .ok (.aload_n 0, 1) := by decide +kernel
theorem dX11_assignment_98 : decode cX11_assignment 98 = .ok (.getfield 26, 3) := by decide +kernel
theorem dX11_assignment_101 : decode cX11_assignment 101 = .ok (.aload_n 0, 1) := by decide +kernel
theorem dX11_assignment_102 : decode cX11_assignment 102 = .ok (.getfield 171, 3) := by decide +kernel
theorem dX11_assignment_105 : decode cX11_assignment 105 = .ok (.iconst 1, 1) := by decide +kernel
theorem dX11_assignment_106 : decode cX11_assignment 106 = .ok (.isub, 1) := by decide +kernel
theorem dX11_assignment_107 : decode cX11_assignment 107 = .ok (.iload_n 2, 1) := by decide +kernel
theorem dX11_assignment_108 : decode cX11_assignment 108 = .ok (.iastore, 1) := by decide +kernel
theorem dX11_assignment_109 : decode cX11_assignment 109 = .ok (.return_, 1) := by decide +kernel
theorem dX11_writing_0 : decode cX11_writing 0 = .ok (.aload_n 0, 1) := by decide +kernel
theorem dX11_writing_1 : decode cX11_writing 1 = .ok (.getfield 128, 3) := by decide +kernel
theorem dX11_writing_4 : decode cX11_writing 4 = .ok (.istore_n 1, 1) := by decide +kernel
theorem dX11_writing_5 : decode cX11_writing 5 = .ok (.aload_n 0, 1) := by decide +kernel
theorem dX11_writing_6 : decode cX11_writing 6 = .ok (.dup, 1) := by decide +kernel
theorem dX11_writing_7 : decode cX11_writing 7 = .ok (.getfield 128, 3) := by decide +kernel
theorem dX11_writing_10 : decode cX11_writing 10 = .ok (.iconst 1, 1) := by decide +kernel
theorem dX11_writing_11 : decode cX11_writing 11 = .ok (.iadd, 1) := by decide +kernel
theorem dX11_writing_12 : decode cX11_writing 12 = .ok (.putfield 128, 3) := by decide +kernel
theorem dX11_writing_15 : decode cX11_writing 15 = .ok (.aload_n 0, 1) := by decide +kernel
theorem dX11_writing_16 : decode cX11_writing 16 = .ok (.invokevirtual 135, 3) := by decide +kernel
theorem dX11_writing_19 : decode cX11_writing 19 = .ok (.bipush 91, 2) := by decide +kernel
theorem dX11_writing_21 : decode cX11_writing 21 = .ok (.if_icmp .eq 13, 3) := by decide +kernel
theorem dX11_writing_24 : decode cX11_writing 24 = .ok (.aload_n 0, 1) := by decide +kernel
theorem dX11_writing_25 : decode cX11_writing 25 = .ok (.iconst 1, 1) := by decide +kernel
theorem dX11_writing_26 : decode cX11_writing 26 = .ok (.aload_n 0, 1) := by decide +kernel
theorem dX11_writing_27 : decode cX11_writing 27 = .ok (.getfield 128, 3) := by decide +kernel
theorem dX11_writing_30 : decode cX11_writing 30 = .ok (.invokevirtual 139, 3) := by decide +kernel
theorem dX11_writing_33 : decode cX11_writing 33 = .ok (.return_, 1) := by decide +kernel
theorem dX11_writing_34 : decode cX11_writing 34 = .ok (.aload_n 0, 1) := by decide +kernel
theorem dX11_writing_35 : decode cX11_writing 35 = .ok (.invokevirtual 200, 3) := by decide +kernel
theorem dX11_writing_38 : decode cX11_writing 38 = .ok (.aload_n 0, 1) := by decide +kernel
theorem dX11_writing_39 : decode cX11_writing 39 = .ok (.invokevirtual 203, 3) := by decide +kernel
theorem dX11_writing_42 : decode cX11_writing 42 = .ok (.aload_n 0, 1) := by decide +kernel
theorem dX11_writing_43 : decode cX11_writing 43 = .ok (.bipush 93, 2) := by decide +kernel
theorem dX11_writing_45 : decode cX11_writing 45 = .ok (.invokevirtual 206, 3) := by decide +kernel
theorem dX11_writing_48 : decode cX11_writing 48 = .ok (.aload_n 0, 1) := by decide +kernel
theorem dX11_writing_49 : decode cX11_writing 49 = .ok (.dup, 1) := by decide +kernel
theorem dX11_writing_50 : decode cX11_writing 50 = .ok (.getfield 183, 3) := by decide +kernel
theorem dX11_writing_53 : decode cX11_writing 53 = .ok (.iconst 1, 1) := by decide +kernel
theorem dX11_writing_54 : decode cX11_writing 54 = .ok (.isub, 1) := by decide +kernel
theorem dX11_writing_55 : decode cX11_writing 55 = .ok (.putfield 183, 3) := by decide +kernel
theorem dX11_writing_58 : decode cX11_writing 58 = .ok (.aload_n 0, 1) := by decide +kernel
theorem dX11_writing_59 : decode cX11_writing 59 = .ok (.getfield 177, 3) := by decide +kernel
theorem dX11_writing_62 : decode cX11_writing 62 = .ok (.istore_n 2, 1) := by decide +kernel
theorem dX11_writing_63 : decode cX11_writing 63 = .ok (.aload_n 0, 1) := by decide +kernel
theorem dX11_writing_64 : decode cX11_writing 64 = .ok (.getfield 180, 3) := by decide +kernel
theorem dX11_writing_67 : decode cX11_writing 67 = .ok (.istore_n 3, 1) := by decide +kernel
theorem dX11_writing_68 : decode cX11_writing 68 = .ok (.aload_n 0, 1) := by decide +kernel
theorem dX11_writing_69 : decode cX11_writing 69 = .ok (.bipush 61, 2) := by decide +kernel
theorem dX11_writing_71 : decode cX11_writing 71 = .ok (.invokevirtual 206, 3) := by decide +kernel
theorem dX11_writing_74 : decode cX11_writing 74 = .ok (.aload_n 0, 1) := by decide +kernel
theorem dX11_writing_75 : decode cX11_writing 75 = .ok (.getfield 125, 3) := by decide +kernel
theorem dX11_writing_78 : decode cX11_writing 78 = .ok (.ifCond .ne 7, 3) := by decide +kernel
theorem dX11_writing_81 : decode cX11_writing 81 = .ok (.aload_n 0, 1) := by decide +kernel
theorem dX11_writing_82 : decode cX11_writing 82 = .ok (.invokevirtual 203, 3) := by decide +kernel
theorem dX11_writing_85 : decode cX11_writing 85 = .ok (.aload_n 0, 1) := by decide +kernel
theorem dX11_writing_86 : decode cX11_writing 86 = .ok (.bipush 59, 2) := by decide +kernel
theorem dX11_writing_88 : decode cX11_writing 88 = .ok (.invokevirtual 206, 3) := by decide +kernel
theorem dX11_writing_91 : decode cX11_writing 91 = .ok (.aload_n 0, 1) := by decide +kernel
theorem dX11_writing_92 : decode cX11_writing 92 = .ok (.getfield 125, 3) := by decide +kernel
theorem dX11_writing_95 : decode cX11_writing 95 = .ok (.ifCond .ne 14, 3) := by decide +kernel
theorem dX11_writing_98 : decode cX11_writing 98 = .ok (.aload_n 0, 1) := by decide +kernel
theorem dX11_writing_99 : decode cX11_writing 99 = .ok (.bipush 6, 2) := by decide +kernel
theorem dX11_writing_101 : decode cX11_writing 101 = .ok (.iload_n 1, 1) := by decide +kernel
theorem dX11_writing_102 : decode cX11_writing 102 = .ok (.iload_n 2, 1) := by decide +kernel
theorem dX11_writing_103 : decode cX11_writing 103 = .ok (.iload_n 3, 1) := by decide +kernel
theorem dX11_writing_104 : decode cX11_writing 104 = .ok (.invokevirtual 213, 3) := by decide +kernel
theorem dX11_writing_107 : decode cX11_writing 107 = .ok (.istore 4, 2) := by decide +kernel
theorem dX11_writing_109 : decode cX11_writing 109 = .ok (.return_, 1) := by decide +kernel
theorem dX11_inBraces_0 : decode cX11_inBraces 0 = .ok (.aload_n 0, 1) := by decide +kernel
theorem dX11_inBraces_1 : decode cX11_inBraces 1 = .ok (.getfield 125, 3) := by decide +kernel
theorem dX11_inBraces_4 : decode cX11_inBraces 4 = .ok (.ifCond .ne 30, 3) := by decide +kernel
theorem dX11_inBraces_7 : decode cX11_inBraces 7 = .ok (.aload_n 0, 1) := by decide +kernel
theorem dX11_inBraces_8 : decode cX11_inBraces 8 = .ok (.invokevirtual 135, 3) := by decide +kernel
theorem dX11_inBraces_11 : decode cX11_inBraces 11 = .ok (.bipush 123, 2) := by decide +kernel
theorem dX11_inBraces_13 : decode cX11_inBraces 13 = .ok (.if_icmp .ne 21, 3) := by decide +kernel
theorem dX11_inBraces_16 : decode cX11_inBraces 16 = .ok (.aload_n 0, 1) := by decide +kernel
theorem dX11_inBraces_17 : decode cX11_inBraces 17 = .ok (.getfield 230, 3) := by decide +kernel
theorem dX11_inBraces_20 : decode cX11_inBraces 20 = .ok (.bipush 10, 2) := by decide +kernel
theorem dX11_inBraces_22 : decode cX11_inBraces 22 = .ok (.if_icmp .ne 12, 3) := by decide +kernel
theorem dX11_inBraces_25 : decode cX11_inBraces 25 = .ok (.aload_n 0, 1) := by decide +kernel
theorem dX11_inBraces_26 : decode cX11_inBraces 26 = .ok (.iconst 3, 1) := by decide +kernel
theorem dX11_inBraces_27 : decode cX11_inBraces 27 = .ok (.aload_n 0, 1) := by decide +kernel
theorem dX11_inBraces_28 : decode cX11_inBraces 28 = .ok (.getfield 128, 3) := by decide +kernel
theorem dX11_inBraces_31 : decode cX11_inBraces 31 = .ok (.invokevirtual 139, 3) := by decide +kernel
theorem dX11_inBraces_34 : decode cX11_inBraces 34 = .ok (.aload_n 0, 1) := by decide +kernel
theorem dX11_inBraces_35 : decode cX11_inBraces 35 = .ok (.bipush 123, 2) := by decide +kernel
theorem dX11_inBraces_37 : decode cX11_inBraces 37 = .ok (.invokevirtual 206, 3) := by decide +kernel
theorem dX11_inBraces_40 : decode cX11_inBraces 40 = .ok (.aload_n 0, 1) := by decide +kernel
theorem dX11_inBraces_41 : decode cX11_inBraces 41 = .ok (.dup, 1) := by decide +kernel
theorem dX11_inBraces_42 : decode cX11_inBraces 42 = .ok (.getfield 230, 3) := by decide +kernel
theorem dX11_inBraces_45 : decode cX11_inBraces 45 = .ok (.iconst 1, 1) := by decide +kernel
theorem dX11_inBraces_46 : decode cX11_inBraces 46 = .ok (.iadd, 1) := by decide +kernel
theorem dX11_inBraces_47 : decode cX11_inBraces 47 = .ok (.putfield 230, 3) := by decide +kernel
theorem dX11_inBraces_50 : decode cX11_inBraces 50 = .ok (.aload_n 0, 1) := by decide +kernel
theorem dX11_inBraces_51 : decode cX11_inBraces 51 = .ok (.invokevirtual 233, 3) := by decide +kernel
theorem dX11_inBraces_54 : decode cX11_inBraces 54 = .ok (.aload_n 0, 1) := by decide +kernel
theorem dX11_inBraces_55 : decode cX11_inBraces 55 = .ok (.bipush 125, 2) := by decide +kernel
theorem dX11_inBraces_57 : decode cX11_inBraces 57 = .ok (.invokevirtual 206, 3) := by decide +kernel
theorem dX11_inBraces_60 : decode cX11_inBraces 60 = .ok (.aload_n 0, 1) := by decide +kernel
theorem dX11_inBraces_61 : decode cX11_inBraces 61 = .ok (.dup, 1) := by decide +kernel
theorem dX11_inBraces_62 : decode cX11_inBraces 62 = .ok (.getfield 230, 3) := by decide +kernel
theorem dX11_inBraces_65 : decode cX11_inBraces 65 = .ok (.iconst 1, 1) := by decide +kernel
theorem dX11_inBraces_66 : decode cX11_inBraces 66 = .ok (.isub, 1) := by decide +kernel
theorem dX11_inBraces_67 : decode cX11_inBraces 67 = .ok (.putfield 230, 3) := by decide +kernel
theorem dX11_inBraces_70 : decode cX11_inBraces 70 = .ok (.return_, 1) := by decide +kernel
theorem dX11_endBlock_0 : decode cX11_endBlock 0 = .ok (.aload_n 0, 1) := by decide +kernel
theorem dX11_endBlock_1 : decode cX11_endBlock 1 = .ok (.invokevirtual 174, 3) := by decide +kernel
theorem dX11_endBlock_4 : decode cX11_endBlock 4 = .ok (.aload_n 0, 1) := by decide +kernel
theorem dX11_endBlock_5 : decode cX11_endBlock 5 = .ok (.getfield 159, 3) := by decide +kernel
theorem dX11_endBlock_8 : decode cX11_endBlock 8 = .ok (.istore_n 1, 1) := by decide +kernel
theorem dX11_endBlock_9 : decode cX11_endBlock 9 = .ok (.aload_n 0, 1) := by decide +kernel
theorem dX11_endBlock_10 : decode cX11_endBlock 10 = .ok (.getfield 44, 3) := by decide +kernel
theorem dX11_endBlock_13 : decode cX11_endBlock 13 = .ok (.iload_n 1, 1) := by decide +kernel
theorem dX11_endBlock_14 : decode cX11_endBlock 14 = .ok (.iconst 1, 1) := by decide +kernel
theorem dX11_endBlock_15 : decode cX11_endBlock 15 = .ok (.bastore, 1) := by decide +kernel
theorem dX11_endBlock_16 : decode cX11_endBlock 16 = .ok (.aload_n 0, 1) := by decide +kernel
theorem dX11_endBlock_17 : decode cX11_endBlock 17 = .ok (.getfield 32, 3) := by decide +kernel
theorem dX11_endBlock_20 : decode cX11_endBlock 20 = .ok (.iload_n 1, 1) := by decide +kernel
theorem dX11_endBlock_21 : decode cX11_endBlock 21 = .ok (.aload_n 0, 1) := by decide +kernel
theorem dX11_endBlock_22 : decode cX11_endBlock 22 = .ok (.getfield 177, 3) := by decide +kernel
theorem dX11_endBlock_25 : decode cX11_endBlock 25 = .ok (.iastore, 1) := by decide +kernel
theorem dX11_endBlock_26 : decode cX11_endBlock 26 = .ok (.aload_n 0, 1) := by decide +kernel
theorem dX11_endBlock_27 : decode cX11_endBlock 27 = .ok (.getfield 35, 3) := by decide +kernel
theorem dX11_endBlock_30 : decode cX11_endBlock 30 = .ok (.iload_n 1, 1) := by decide +kernel
theorem dX11_endBlock_31 : decode cX11_endBlock 31 = .ok (.aload_n 0, 1) := by decide +kernel
theorem dX11_endBlock_32 : decode cX11_endBlock 32 = .ok (.getfield 180, 3) := by decide +kernel
theorem dX11_endBlock_35 : decode cX11_endBlock 35 = .ok (.iastore, 1) := by decide +kernel
theorem dX11_endBlock_36 : decode cX11_endBlock 36 = .ok (.aload_n 0, 1) := by decide +kernel
theorem dX11_endBlock_37 : decode cX11_endBlock 37 = .ok (.iconst (-1), 1) := by decide +kernel
theorem dX11_endBlock_38 : decode cX11_endBlock 38 = .ok (.putfield 159, 3) := by decide +kernel
theorem dX11_endBlock_41 : decode cX11_endBlock 41 = .ok (.iload_n 1, 1) := by decide +kernel
theorem dX11_endBlock_42 : decode cX11_endBlock 42 = .ok (.ireturn, 1) := by decide +kernel
theorem dX11_leaveOpen_0 : decode cX11_leaveOpen 0 = .ok (.aload_n 0, 1) := by decide +kernel
theorem dX11_leaveOpen_1 : decode cX11_leaveOpen 1 = .ok (.getfield 159, 3) := by decide +kernel
theorem dX11_leaveOpen_4 : decode cX11_leaveOpen 4 = .ok (.iconst (-1), 1) := by decide +kernel
theorem dX11_leaveOpen_5 : decode cX11_leaveOpen 5 = .ok (.if_icmp .eq 17, 3) := by decide +kernel
theorem dX11_leaveOpen_8 : decode cX11_leaveOpen 8 = .ok (.aload_n 0, 1) := by decide +kernel
theorem dX11_leaveOpen_9 : decode cX11_leaveOpen 9 = .ok (.aload_n 0, 1) := by decide +kernel
theorem dX11_leaveOpen_10 : decode cX11_leaveOpen 10 = .ok (.getfield 159, 3) := by decide +kernel
theorem dX11_leaveOpen_13 : decode cX11_leaveOpen 13 = .ok (.iconst 0, 1) := by decide +kernel
theorem dX11_leaveOpen_14 : decode cX11_leaveOpen 14 = .ok (.invokevirtual 236, 3) := by decide +kernel
theorem dX11_leaveOpen_17 : decode cX11_leaveOpen 17 = .ok (.aload_n 0, 1) := by decide +kernel
theorem dX11_leaveOpen_18 : decode cX11_leaveOpen 18 = .ok (.iconst (-1), 1) := by decide +kernel
theorem dX11_leaveOpen_19 : decode cX11_leaveOpen 19 = .ok (.putfield 159, 3) := by decide +kernel
theorem dX11_leaveOpen_22 : decode cX11_leaveOpen 22 = .ok (.return_, 1) := by decide +kernel
theorem dX11_choice_0 : decode cX11_choice 0 = .ok (.aload_n 0, 1) := by decide +kernel
theorem dX11_choice_1 : decode cX11_choice 1 = .ok (.dup, 1) := by decide +kernel
theorem dX11_choice_2 : decode cX11_choice 2 = .ok (.getfield 128, 3) := by decide +kernel
theorem dX11_choice_5 : decode cX11_choice 5 = .ok (.iconst 2, 1) := by decide +kernel
theorem dX11_choice_6 : decode cX11_choice 6 = .ok (.iadd, 1) := by decide +kernel
theorem dX11_choice_7 : decode cX11_choice 7 = .ok (.putfield 128, 3) := by decide +kernel
theorem dX11_choice_10 : decode cX11_choice 10 = .ok (.aload_n 0, 1) := by decide +kernel
theorem dX11_choice_11 : decode cX11_choice 11 = .ok (.invokevirtual 203, 3) := by decide +kernel
theorem dX11_choice_14 : decode cX11_choice 14 = .ok (.aload_n 0, 1) := by decide +kernel
theorem dX11_choice_15 : decode cX11_choice 15 = .ok (.getfield 125, 3) := by decide +kernel
theorem dX11_choice_18 : decode cX11_choice 18 = .ok (.ifCond .le 4, 3) := by decide +kernel
theorem dX11_choice_21 : decode cX11_choice 21 = .ok (.return_, 1) := by decide +kernel
theorem dX11_choice_22 : decode cX11_choice 22 = .ok (.aload_n 0, 1) := by decide +kernel
theorem dX11_choice_23 : decode cX11_choice 23 = .ok (.invokevirtual 240, 3) := by decide +kernel
theorem dX11_choice_26 : decode cX11_choice 26 = .ok (.istore_n 1, 1) := by decide +kernel
theorem dX11_choice_27 : decode cX11_choice 27 = .ok (.aload_n 0, 1) := by decide +kernel
theorem dX11_choice_28 : decode cX11_choice 28 = .ok (.getfield 165, 3) := by decide +kernel
theorem dX11_choice_31 : decode cX11_choice 31 = .ok (.istore_n 2, 1) := by decide +kernel
theorem dX11_choice_32 : decode cX11_choice 32 = .ok (.aload_n 0, 1) := by decide +kernel
theorem dX11_choice_33 : decode cX11_choice 33 = .ok (.iload_n 1, 1) := by decide +kernel
theorem dX11_choice_34 : decode cX11_choice 34 = .ok (.iconst 0, 1) := by decide +kernel
theorem dX11_choice_35 : decode cX11_choice 35 = .ok (.invokevirtual 236, 3) := by decide +kernel
theorem dX11_choice_38 : decode cX11_choice 38 = .ok (.aload_n 0, 1) := by decide +kernel
theorem dX11_choice_39 : decode cX11_choice 39 = .ok (.invokevirtual 243, 3) := by decide +kernel
theorem dX11_choice_42 : decode cX11_choice 42 = .ok (.aload_n 0, 1) := by decide +kernel
theorem dX11_choice_43 : decode cX11_choice 43 = .ok (.invokevirtual 246, 3) := by decide +kernel
theorem dX11_choice_46 : decode cX11_choice 46 = .ok (.aload_n 0, 1) := by decide +kernel
theorem dX11_choice_47 : decode cX11_choice 47 = .ok (.getfield 125, 3) := by decide +kernel
theorem dX11_choice_50 : decode cX11_choice 50 = .ok (.ifCond .ne 51, 3) := by decide +kernel
theorem dX11_choice_53 : decode cX11_choice 53 = .ok (.aload_n 0, 1) := by decide +kernel
theorem dX11_choice_54 : decode cX11_choice 54 = .ok (.invokevirtual 210, 3) := by decide +kernel
theorem dX11_choice_57 : decode cX11_choice 57 = .ok (.iconst 2, 1) := by decide +kernel
theorem dX11_choice_58 : decode cX11_choice 58 = .ok (.if_icmp .ne 43, 3) := by decide +kernel
theorem dX11_choice_61 : decode cX11_choice 61 = .ok (.aload_n 0, 1) := by decide +kernel
theorem dX11_choice_62 : decode cX11_choice 62 = .ok (.dup, 1) := by decide +kernel
theorem dX11_choice_63 : decode cX11_choice 63 = .ok (.getfield 128, 3) := by decide +kernel
theorem dX11_choice_66 : decode cX11_choice 66 = .ok (.iconst 4, 1) := by decide +kernel
theorem dX11_choice_67 : decode cX11_choice 67 = .ok (.iadd, 1) := by decide +kernel
theorem dX11_choice_68 : decode cX11_choice 68 = .ok (.putfield 128, 3) := by decide +kernel
theorem dX11_choice_71 : decode cX11_choice 71 = .ok (.aload_n 0, 1) := by decide +kernel
theorem dX11_choice_72 : decode cX11_choice 72 = .ok (.aload_n 0, 1) := by decide +kernel
theorem dX11_choice_73 : decode cX11_choice 73 = .ok (.getfield 156, 3) := by decide +kernel
theorem dX11_choice_76 : decode cX11_choice 76 = .ok (.putfield 165, 3) := by decide +kernel
theorem dX11_choice_79 : decode cX11_choice 79 = .ok (.aload_n 0, 1) := by decide +kernel
theorem dX11_choice_80 : decode cX11_choice 80 = .ok (.iload_n 1, 1) := by decide +kernel
theorem dX11_choice_81 : decode cX11_choice 81 = .ok (.iconst 1, 1) := by decide +kernel
theorem dX11_choice_82 : decode cX11_choice 82 = .ok (.invokevirtual 236, 3) := by decide +kernel
theorem dX11_choice_85 : decode cX11_choice 85 = .ok (.aload_n 0, 1) := by decide +kernel
theorem dX11_choice_86 : decode cX11_choice 86 = .ok (.invokevirtual 243, 3) := by decide +kernel
theorem dX11_choice_89 : decode cX11_choice 89 = .ok (.aload_n 0, 1) := by decide +kernel
theorem dX11_choice_90 : decode cX11_choice 90 = .ok (.invokevirtual 246, 3) := by decide +kernel
theorem dX11_choice_93 : decode cX11_choice 93 = .ok (.aload_n 0, 1) := by decide +kernel
theorem dX11_choice_94 : decode cX11_choice 94 = .ok (.iload_n 2, 1) := by decide +kernel
theorem dX11_choice_95 : decode cX11_choice 95 = .ok (.putfield 165, 3) := by decide +kernel
theorem dX11_choice_98 : decode cX11_choice 98 = .ok (.goto 9, 3) := by decide +kernel
theorem dX11_choice_101 : decode cX11_choice 101 = .ok (.aload_n 0, 1) := by decide +kernel
theorem dX11_choice_102 : decode cX11_choice 102 = .ok (.iload_n 1, 1) := by decide +kernel
theorem dX11_choice_103 : decode cX11_choice 103 = .ok (.iconst 1, 1) := by decide +kernel
theorem dX11_choice_104 : decode cX11_choice 104 = .ok (.invokevirtual 236, 3) := by decide +kernel
theorem dX11_choice_107 : decode cX11_choice 107 = .ok (.return_, 1) := by decide +kernel
theorem dX11_loop_0 : decode cX11_loop 0 = .ok (.aload_n 0, 1) := by decide +kernel
theorem dX11_loop_1 : decode cX11_loop 1 = .ok (.dup, 1) := by decide +kernel
theorem dX11_loop_2 : decode cX11_loop 2 = .ok (.getfield 128, 3) := by decide +kernel
theorem dX11_loop_5 : decode cX11_loop 5 = .ok (.iconst 5, 1) := by decide +kernel
theorem dX11_loop_6 : decode cX11_loop 6 = .ok (.iadd, 1) := by decide +kernel
theorem dX11_loop_7 : decode cX11_loop 7 = .ok (.putfield 128, 3) := by decide +kernel
theorem dX11_loop_10 : decode cX11_loop 10 = .ok (.aload_n 0, 1) := by decide +kernel
theorem dX11_loop_11 : decode cX11_loop 11 = .ok (.invokevirtual 246, 3) := by decide +kernel
theorem dX11_loop_14 : decode cX11_loop 14 = .ok (.aload_n 0, 1) := by decide +kernel
theorem dX11_loop_15 : decode cX11_loop 15 = .ok (.invokevirtual 174, 3) := by decide +kernel
theorem dX11_loop_18 : decode cX11_loop 18 = .ok (.aload_n 0, 1) := by decide +kernel
theorem dX11_loop_19 : decode cX11_loop 19 = .ok (.invokevirtual 203, 3) := by decide +kernel
theorem dX11_loop_22 : decode cX11_loop 22 = .ok (.aload_n 0, 1) := by decide +kernel
theorem dX11_loop_23 : decode cX11_loop 23 = .ok (.getfield 125, 3) := by decide +kernel
theorem dX11_loop_26 : decode cX11_loop 26 = .ok (.ifCond .le 4, 3) := by decide +kernel
theorem dX11_loop_29 : decode cX11_loop 29 = .ok (.return_, 1) := by decide +kernel
theorem dX11_loop_30 : decode cX11_loop 30 = .ok (.aload_n 0, 1) := by decide +kernel
theorem dX11_loop_31 : decode cX11_loop 31 = .ok (.invokevirtual 240, 3) := by decide +kernel
theorem dX11_loop_34 : decode cX11_loop 34 = .ok (.istore_n 1, 1) := by decide +kernel
theorem dX11_loop_35 : decode cX11_loop 35 = .ok (.aload_n 0, 1) := by decide +kernel
theorem dX11_loop_36 : decode cX11_loop 36 = .ok (.iload_n 1, 1) := by decide +kernel
theorem dX11_loop_37 : decode cX11_loop 37 = .ok (.iconst 0, 1) := by decide +kernel
theorem dX11_loop_38 : decode cX11_loop 38 = .ok (.invokevirtual 236, 3) := by decide +kernel
theorem dX11_loop_41 : decode cX11_loop 41 = .ok (.aload_n 0, 1) := by decide +kernel
theorem dX11_loop_42 : decode cX11_loop 42 = .ok (.invokevirtual 243, 3) := by decide +kernel
theorem dX11_loop_45 : decode cX11_loop 45 = .ok (.aload_n 0, 1) := by decide +kernel
theorem dX11_loop_46 : decode cX11_loop 46 = .ok (.invokevirtual 246, 3) := by decide +kernel
theorem dX11_loop_49 : decode cX11_loop 49 = .ok (.aload_n 0, 1) := by decide +kernel
theorem dX11_loop_50 : decode cX11_loop 50 = .ok (.aload_n 0, 1) := by decide +kernel
theorem dX11_loop_51 : decode cX11_loop 51 = .ok (.getfield 165, 3) := by decide +kernel
theorem dX11_loop_54 : decode cX11_loop 54 = .ok (.iload_n 1, 1) := by decide +kernel
theorem dX11_loop_55 : decode cX11_loop 55 = .ok (.invokevirtual 168, 3) := by decide +kernel
theorem dX11_loop_58 : decode cX11_loop 58 = .ok (.aload_n 0, 1) := by decide +kernel
theorem dX11_loop_59 : decode cX11_loop 59 = .ok (.iload_n 1, 1) := by decide +kernel
theorem dX11_loop_60 : decode cX11_loop 60 = .ok (.iconst 1, 1) := by decide +kernel
theorem dX11_loop_61 : decode cX11_loop 61 = .ok (.invokevirtual 236, 3) := by decide +kernel
theorem dX11_loop_64 : decode cX11_loop 64 = .ok (.return_, 1) := by decide +kernel
theorem dX11_statements_0 : decode cX11_statements 0 = .ok (.aload_n 0, 1) := by decide +kernel
theorem dX11_statements_1 : decode cX11_statements 1 = .ok (.getfield 125, 3) := by decide +kernel
theorem dX11_statements_4 : decode cX11_statements 4 = .ok (.ifCond .ne 78, 3) := by decide +kernel
theorem dX11_statements_7 : decode cX11_statements 7 = .ok (.aload_n 0, 1) := by decide +kernel
theorem dX11_statements_8 : decode cX11_statements 8 = .ok (.invokevirtual 135, 3) := by decide +kernel
theorem dX11_statements_11 : decode cX11_statements 11 = .ok (.invokestatic 143, 3) := by decide +kernel
theorem dX11_statements_14 : decode cX11_statements 14 = .ok (.ifCond .eq 68, 3) := by decide +kernel
theorem dX11_statements_17 : decode cX11_statements 17 = .ok (.aload_n 0, 1) := by decide +kernel
theorem dX11_statements_18 : decode cX11_statements 18 = .ok (.invokevirtual 210, 3) := by decide +kernel
theorem dX11_statements_21 : decode cX11_statements 21 = .ok (.istore_n 1, 1) := by decide +kernel
theorem dX11_statements_22 : decode cX11_statements 22 = .ok (.iload_n 1, 1) := by decide +kernel
theorem dX11_statements_23 : decode cX11_statements 23 = .ok (.iconst 4, 1) := by decide +kernel
theorem dX11_statements_24 : decode cX11_statements 24 = .ok (.if_icmp .ne 10, 3) := by decide +kernel
theorem dX11_statements_27 : decode cX11_statements 27 = .ok (.aload_n 0, 1) := by decide +kernel
theorem dX11_statements_28 : decode cX11_statements 28 = .ok (.invokevirtual 249, 3) := by decide +kernel
theorem dX11_statements_31 : decode cX11_statements 31 = .ok (.goto 48, 3) := by decide +kernel
theorem dX11_statements_34 : decode cX11_statements 34 = .ok (.iload_n 1, 1) := by decide +kernel
theorem dX11_statements_35 : decode cX11_statements 35 = .ok (.iconst 5, 1) := by decide +kernel
theorem dX11_statements_36 : decode cX11_statements 36 = .ok (.if_icmp .ne 10, 3) := by decide +kernel
theorem dX11_statements_39 : decode cX11_statements 39 = .ok (.aload_n 0, 1) := by decide +kernel
theorem dX11_statements_40 : decode cX11_statements 40 = .ok (.invokevirtual 252, 3) := by decide +kernel
theorem dX11_statements_43 : decode cX11_statements 43 = .ok (.goto 36, 3) := by decide +kernel
theorem dX11_statements_46 : decode cX11_statements 46 = .ok (.iload_n 1, 1) := by decide +kernel
theorem dX11_statements_47 : decode cX11_statements 47 = .ok (.iconst 1, 1) := by decide +kernel
theorem dX11_statements_48 : decode cX11_statements 48 = .ok (.if_icmp .ne 10, 3) := by decide +kernel
theorem dX11_statements_51 : decode cX11_statements 51 = .ok (.aload_n 0, 1) := by decide +kernel
theorem dX11_statements_52 : decode cX11_statements 52 = .ok (.invokevirtual 255, 3) := by decide +kernel
theorem dX11_statements_55 : decode cX11_statements 55 = .ok (.goto 24, 3) := by decide +kernel
theorem dX11_statements_58 : decode cX11_statements 58 = .ok (.iload_n 1, 1) := by decide +kernel
theorem dX11_statements_59 : decode cX11_statements 59 = .ok (.iconst 3, 1) := by decide +kernel
theorem dX11_statements_60 : decode cX11_statements 60 = .ok (.if_icmp .ne 10, 3) := by decide +kernel
theorem dX11_statements_63 : decode cX11_statements 63 = .ok (.aload_n 0, 1) := by decide +kernel
theorem dX11_statements_64 : decode cX11_statements 64 = .ok (.invokevirtual 258, 3) := by decide +kernel
theorem dX11_statements_67 : decode cX11_statements 67 = .ok (.goto 12, 3) := by decide +kernel
theorem dX11_statements_70 : decode cX11_statements 70 = .ok (.aload_n 0, 1) := by decide +kernel
theorem dX11_statements_71 : decode cX11_statements 71 = .ok (.iconst 1, 1) := by decide +kernel
theorem dX11_statements_72 : decode cX11_statements 72 = .ok (.aload_n 0, 1) := by decide +kernel
theorem dX11_statements_73 : decode cX11_statements 73 = .ok (.getfield 128, 3) := by decide +kernel
theorem dX11_statements_76 : decode cX11_statements 76 = .ok (.invokevirtual 139, 3) := by decide +kernel
theorem dX11_statements_79 : decode cX11_statements 79 = .ok (.goto (-79), 3) := by decide +kernel
theorem dX11_statements_82 : decode cX11_statements 82 = .ok (.return_, 1) := by decide +kernel
theorem dX11_compile_0 : decode cX11_compile 0 = .ok (.aload_n 0, 1) := by decide +kernel
theorem dX11_compile_1 : decode cX11_compile 1 = .ok (.iconst 0, 1) := by decide +kernel
theorem dX11_compile_2 : decode cX11_compile 2 = .ok (.putfield 117, 3) := by decide +kernel
theorem dX11_compile_5 : decode cX11_compile 5 = .ok (.aload_n 0, 1) := by decide +kernel
theorem dX11_compile_6 : decode cX11_compile 6 = .ok (.iconst 0, 1) := by decide +kernel
theorem dX11_compile_7 : decode cX11_compile 7 = .ok (.putfield 125, 3) := by decide +kernel
theorem dX11_compile_10 : decode cX11_compile 10 = .ok (.aload_n 0, 1) := by decide +kernel
theorem dX11_compile_11 : decode cX11_compile 11 = .ok (.iconst (-1), 1) := by decide +kernel
theorem dX11_compile_12 : decode cX11_compile 12 = .ok (.putfield 13, 3) := by decide +kernel
theorem dX11_compile_15 : decode cX11_compile 15 = .ok (.aload_n 0, 1) := by decide +kernel
theorem dX11_compile_16 : decode cX11_compile 16 = .ok (.iconst 0, 1) := by decide +kernel
theorem dX11_compile_17 : decode cX11_compile 17 = .ok (.putfield 128, 3) := by decide +kernel
theorem dX11_compile_20 : decode cX11_compile 20 = .ok (.aload_n 0, 1) := by decide +kernel
theorem dX11_compile_21 : decode cX11_compile 21 = .ok (.iconst 0, 1) := by decide +kernel
theorem dX11_compile_22 : decode cX11_compile 22 = .ok (.putfield 183, 3) := by decide +kernel
theorem dX11_compile_25 : decode cX11_compile 25 = .ok (.aload_n 0, 1) := by decide +kernel
theorem dX11_compile_26 : decode cX11_compile 26 = .ok (.iconst 0, 1) := by decide +kernel
theorem dX11_compile_27 : decode cX11_compile 27 = .ok (.putfield 230, 3) := by decide +kernel
theorem dX11_compile_30 : decode cX11_compile 30 = .ok (.aload_n 0, 1) := by decide +kernel
theorem dX11_compile_31 : decode cX11_compile 31 = .ok (.iconst 0, 1) := by decide +kernel
theorem dX11_compile_32 : decode cX11_compile 32 = .ok (.putfield 171, 3) := by decide +kernel
theorem dX11_compile_35 : decode cX11_compile 35 = .ok (.aload_n 0, 1) := by decide +kernel
theorem dX11_compile_36 : decode cX11_compile 36 = .ok (.iconst 0, 1) := by decide +kernel
theorem dX11_compile_37 : decode cX11_compile 37 = .ok (.putfield 162, 3) := by decide +kernel
theorem dX11_compile_40 : decode cX11_compile 40 = .ok (.aload_n 0, 1) := by decide +kernel
theorem dX11_compile_41 : decode cX11_compile 41 = .ok (.iconst (-1), 1) := by decide +kernel
theorem dX11_compile_42 : decode cX11_compile 42 = .ok (.putfield 159, 3) := by decide +kernel
theorem dX11_compile_45 : decode cX11_compile 45 = .ok (.aload_n 0, 1) := by decide +kernel
theorem dX11_compile_46 : decode cX11_compile 46 = .ok (.iconst 0, 1) := by decide +kernel
theorem dX11_compile_47 : decode cX11_compile 47 = .ok (.putfield 156, 3) := by decide +kernel
theorem dX11_compile_50 : decode cX11_compile 50 = .ok (.aload_n 0, 1) := by decide +kernel
theorem dX11_compile_51 : decode cX11_compile 51 = .ok (.iconst 0, 1) := by decide +kernel
theorem dX11_compile_52 : decode cX11_compile 52 = .ok (.putfield 165, 3) := by decide +kernel
theorem dX11_compile_55 : decode cX11_compile 55 = .ok (.aload_n 0, 1) := by decide +kernel
theorem dX11_compile_56 : decode cX11_compile 56 = .ok (.invokevirtual 233, 3) := by decide +kernel
theorem dX11_compile_59 : decode cX11_compile 59 = .ok (.aload_n 0, 1) := by decide +kernel
theorem dX11_compile_60 : decode cX11_compile 60 = .ok (.getfield 125, 3) := by decide +kernel
theorem dX11_compile_63 : decode cX11_compile 63 = .ok (.ifCond .ne 19, 3) := by decide +kernel
theorem dX11_compile_66 : decode cX11_compile 66 = .ok (.aload_n 0, 1) := by decide +kernel
theorem dX11_compile_67 : decode cX11_compile 67 = .ok (.invokevirtual 135, 3) := by decide +kernel
theorem dX11_compile_70 : decode cX11_compile 70 = .ok (.ifCond .lt 12, 3) := by decide +kernel
theorem dX11_compile_73 : decode cX11_compile 73 = .ok (.aload_n 0, 1) := by decide +kernel
theorem dX11_compile_74 : decode cX11_compile 74 = .ok (.iconst 1, 1) := by decide +kernel
theorem dX11_compile_75 : decode cX11_compile 75 = .ok (.aload_n 0, 1) := by decide +kernel
theorem dX11_compile_76 : decode cX11_compile 76 = .ok (.getfield 128, 3) := by decide +kernel
theorem dX11_compile_79 : decode cX11_compile 79 = .ok (.invokevirtual 139, 3) := by decide +kernel
theorem dX11_compile_82 : decode cX11_compile 82 = .ok (.aload_n 0, 1) := by decide +kernel
theorem dX11_compile_83 : decode cX11_compile 83 = .ok (.getfield 125, 3) := by decide +kernel
theorem dX11_compile_86 : decode cX11_compile 86 = .ok (.ifCond .le 5, 3) := by decide +kernel
theorem dX11_compile_89 : decode cX11_compile 89 = .ok (.iconst (-1), 1) := by decide +kernel
theorem dX11_compile_90 : decode cX11_compile 90 = .ok (.ireturn, 1) := by decide +kernel
theorem dX11_compile_91 : decode cX11_compile 91 = .ok (.aload_n 0, 1) := by decide +kernel
theorem dX11_compile_92 : decode cX11_compile 92 = .ok (.invokevirtual 246, 3) := by decide +kernel
theorem dX11_compile_95 : decode cX11_compile 95 = .ok (.aload_n 0, 1) := by decide +kernel
theorem dX11_compile_96 : decode cX11_compile 96 = .ok (.iconst 0, 1) := by decide +kernel
theorem dX11_compile_97 : decode cX11_compile 97 = .ok (.iconst (-1), 1) := by decide +kernel
theorem dX11_compile_98 : decode cX11_compile 98 = .ok (.invokevirtual 168, 3) := by decide +kernel
theorem dX11_compile_101 : decode cX11_compile 101 = .ok (.aload_n 0, 1) := by decide +kernel
theorem dX11_compile_102 : decode cX11_compile 102 = .ok (.invokevirtual 114, 3) := by decide +kernel
theorem dX11_compile_105 : decode cX11_compile 105 = .ok (.aload_n 0, 1) := by decide +kernel
theorem dX11_compile_106 : decode cX11_compile 106 = .ok (.getfield 261, 3) := by decide +kernel
theorem dX11_compile_109 : decode cX11_compile 109 = .ok (.ireturn, 1) := by decide +kernel
theorem dX11_keepProgram_0 : decode cX11_keepProgram 0 = .ok (.aload_n 0, 1) := by decide +kernel
theorem dX11_keepProgram_1 : decode cX11_keepProgram 1 = .ok (.aload_n 0, 1) := by decide +kernel
theorem dX11_keepProgram_2 : decode cX11_keepProgram 2 = .ok (.getfield 171, 3) := by decide +kernel
theorem dX11_keepProgram_5 : decode cX11_keepProgram 5 = .ok (.putfield 261, 3) := by decide +kernel
theorem dX11_keepProgram_8 : decode cX11_keepProgram 8 = .ok (.aload_n 0, 1) := by decide +kernel
theorem dX11_keepProgram_9 : decode cX11_keepProgram 9 = .ok (.aload_n 0, 1) := by decide +kernel
theorem dX11_keepProgram_10 : decode cX11_keepProgram 10 = .ok (.getfield 162, 3) := by decide +kernel
theorem dX11_keepProgram_13 : decode cX11_keepProgram 13 = .ok (.putfield 264, 3) := by decide +kernel
theorem dX11_keepProgram_16 : decode cX11_keepProgram 16 = .ok (.iconst 0, 1) := by decide +kernel
theorem dX11_keepProgram_17 : decode cX11_keepProgram 17 = .ok (.istore_n 1, 1) := by decide +kernel
theorem dX11_keepProgram_18 : decode cX11_keepProgram 18 = .ok (.iload_n 1, 1) := by decide +kernel
theorem dX11_keepProgram_19 : decode cX11_keepProgram 19 = .ok (.aload_n 0, 1) := by decide +kernel
theorem dX11_keepProgram_20 : decode cX11_keepProgram 20 = .ok (.getfield 261, 3) := by decide +kernel
theorem dX11_keepProgram_23 : decode cX11_keepProgram 23 = .ok (.if_icmp .ge 45, 3) := by decide +kernel
theorem dX11_keepProgram_26 : decode cX11_keepProgram 26 = .ok (.aload_n 0, 1) := by decide +kernel
theorem dX11_keepProgram_27 : decode cX11_keepProgram 27 = .ok (.getfield 51, 3) := by decide +kernel
theorem dX11_keepProgram_30 : decode cX11_keepProgram 30 = .ok (.iload_n 1, 1) := by decide +kernel
theorem dX11_keepProgram_31 : decode cX11_keepProgram 31 = .ok (.aload_n 0, 1) := by decide +kernel
theorem dX11_keepProgram_32 : decode cX11_keepProgram 32 = .ok (.getfield 17, 3) := by decide +kernel
theorem dX11_keepProgram_35 : decode cX11_keepProgram 35 = .ok (.iload_n 1, 1) := by decide +kernel
theorem dX11_keepProgram_36 : decode cX11_keepProgram 36 = .ok (.iaload, 1) := by decide +kernel
theorem dX11_keepProgram_37 : decode cX11_keepProgram 37 = .ok (.iastore, 1) := by decide +kernel
theorem dX11_keepProgram_38 : decode cX11_keepProgram 38 = .ok (.aload_n 0, 1) := by decide +kernel
theorem dX11_keepProgram_39 : decode cX11_keepProgram 39 = .ok (.getfield 60, 3) := by decide +kernel
theorem dX11_keepProgram_42 : decode cX11_keepProgram 42 = .ok (.iload_n 1, 1) := by decide +kernel
theorem dX11_keepProgram_43 : decode cX11_keepProgram 43 = .ok (.aload_n 0, 1) := by decide +kernel
theorem dX11_keepProgram_44 : decode cX11_keepProgram 44 = .ok (.getfield 26, 3) := by decide +kernel
theorem dX11_keepProgram_47 : decode cX11_keepProgram 47 = .ok (.iload_n 1, 1) := by decide +kernel
theorem dX11_keepProgram_48 : decode cX11_keepProgram 48 = .ok (.iaload, 1) := by decide +kernel
theorem dX11_keepProgram_49 : decode cX11_keepProgram 49 = .ok (.iastore, 1) := by decide +kernel
theorem dX11_keepProgram_50 : decode cX11_keepProgram 50 = .ok (.aload_n 0, 1) := by decide +kernel
theorem dX11_keepProgram_51 : decode cX11_keepProgram 51 = .ok (.getfield 63, 3) := by decide +kernel
theorem dX11_keepProgram_54 : decode cX11_keepProgram 54 = .ok (.iload_n 1, 1) := by decide +kernel
theorem dX11_keepProgram_55 : decode cX11_keepProgram 55 = .ok (.aload_n 0, 1) := by decide +kernel
theorem dX11_keepProgram_56 : decode cX11_keepProgram 56 = .ok (.getfield 29, 3) := by decide +kernel
theorem dX11_keepProgram_59 : decode cX11_keepProgram 59 = .ok (.iload_n 1, 1) := by decide +kernel
theorem dX11_keepProgram_60 : decode cX11_keepProgram 60 = .ok (.iaload, 1) := by decide +kernel
theorem dX11_keepProgram_61 : decode cX11_keepProgram 61 = .ok (.iastore, 1) := by decide +kernel
theorem dX11_keepProgram_62 : decode cX11_keepProgram 62 = .ok (.iinc 1 1, 3) := by decide +kernel
theorem dX11_keepProgram_65 : decode cX11_keepProgram 65 = .ok (.goto (-47), 3) := by decide +kernel
theorem dX11_keepProgram_68 : decode cX11_keepProgram 68 = .ok (.iconst 0, 1) := by decide +kernel
theorem dX11_keepProgram_69 : decode cX11_keepProgram 69 = .ok (.istore_n 1, 1) := by decide +kernel
theorem dX11_keepProgram_70 : decode cX11_keepProgram 70 = .ok (.iload_n 1, 1) := by decide +kernel
theorem dX11_keepProgram_71 : decode cX11_keepProgram 71 = .ok (.iconst 2, 1) := by decide +kernel
theorem dX11_keepProgram_72 : decode cX11_keepProgram 72 = .ok (.aload_n 0, 1) := by decide +kernel
theorem dX11_keepProgram_73 : decode cX11_keepProgram 73 = .ok (.getfield 261, 3) := by decide +kernel
theorem dX11_keepProgram_76 : decode cX11_keepProgram 76 = .ok (.imul, 1) := by decide +kernel
theorem dX11_keepProgram_77 : decode cX11_keepProgram 77 = .ok (.if_icmp .ge 33, 3) := by decide +kernel
theorem dX11_keepProgram_80 : decode cX11_keepProgram 80 = .ok (.aload_n 0, 1) := by decide +kernel
theorem dX11_keepProgram_81 : decode cX11_keepProgram 81 = .ok (.getfield 54, 3) := by decide +kernel
theorem dX11_keepProgram_84 : decode cX11_keepProgram 84 = .ok (.iload_n 1, 1) := by decide +kernel
theorem dX11_keepProgram_85 : decode cX11_keepProgram 85 = .ok (.aload_n 0, 1) := by decide +kernel
theorem dX11_keepProgram_86 : decode cX11_keepProgram 86 = .ok (.getfield 20, 3) := by decide +kernel
theorem dX11_keepProgram_89 : decode cX11_keepProgram 89 = .ok (.iload_n 1, 1) := by decide +kernel
theorem dX11_keepProgram_90 : decode cX11_keepProgram 90 = .ok (.iaload, 1) := by decide +kernel
theorem dX11_keepProgram_91 : decode cX11_keepProgram 91 = .ok (.iastore, 1) := by decide +kernel
theorem dX11_keepProgram_92 : decode cX11_keepProgram 92 = .ok (.aload_n 0, 1) := by decide +kernel
theorem dX11_keepProgram_93 : decode cX11_keepProgram 93 = .ok (.getfield 57, 3) := by decide +kernel
theorem dX11_keepProgram_96 : decode cX11_keepProgram 96 = .ok (.iload_n 1, 1) := by decide +kernel
theorem dX11_keepProgram_97 : decode cX11_keepProgram 97 = .ok (.aload_n 0, 1) := by decide +kernel
theorem dX11_keepProgram_98 : decode cX11_keepProgram 98 = .ok (.getfield 23, 3) := by decide +kernel
theorem dX11_keepProgram_101 : decode cX11_keepProgram 101 = .ok (.iload_n 1, 1) := by decide +kernel
theorem dX11_keepProgram_102 : decode cX11_keepProgram 102 = .ok (.iaload, 1) := by decide +kernel
theorem dX11_keepProgram_103 : decode cX11_keepProgram 103 = .ok (.iastore, 1) := by decide +kernel
theorem dX11_keepProgram_104 : decode cX11_keepProgram 104 = .ok (.iinc 1 1, 3) := by decide +kernel
theorem dX11_keepProgram_107 : decode cX11_keepProgram 107 = .ok (.goto (-37), 3) := by decide +kernel
theorem dX11_keepProgram_110 : decode cX11_keepProgram 110 = .ok (.iconst 0, 1) := by decide +kernel
theorem dX11_keepProgram_111 : decode cX11_keepProgram 111 = .ok (.istore_n 1, 1) := by decide +kernel
theorem dX11_keepProgram_112 : decode cX11_keepProgram 112 = .ok (.iload_n 1, 1) := by decide +kernel
theorem dX11_keepProgram_113 : decode cX11_keepProgram 113 = .ok (.aload_n 0, 1) := by decide +kernel
theorem dX11_keepProgram_114 : decode cX11_keepProgram 114 = .ok (.getfield 264, 3) := by decide +kernel
theorem dX11_keepProgram_117 : decode cX11_keepProgram 117 = .ok (.if_icmp .ge 69, 3) := by decide +kernel
theorem dX11_keepProgram_120 : decode cX11_keepProgram 120 = .ok (.aload_n 0, 1) := by decide +kernel
theorem dX11_keepProgram_121 : decode cX11_keepProgram 121 = .ok (.getfield 78, 3) := by decide +kernel
theorem dX11_keepProgram_124 : decode cX11_keepProgram 124 = .ok (.iload_n 1, 1) := by decide +kernel
theorem dX11_keepProgram_125 : decode cX11_keepProgram 125 = .ok (.aload_n 0, 1) := by decide +kernel
theorem dX11_keepProgram_126 : decode cX11_keepProgram 126 = .ok (.getfield 44, 3) := by decide +kernel
theorem dX11_keepProgram_129 : decode cX11_keepProgram 129 = .ok (.iload_n 1, 1) := by decide +kernel
theorem dX11_keepProgram_130 : decode cX11_keepProgram 130 = .ok (.baload, 1) := by decide +kernel
theorem dX11_keepProgram_131 : decode cX11_keepProgram 131 = .ok (.bastore, 1) := by decide +kernel
theorem dX11_keepProgram_132 : decode cX11_keepProgram 132 = .ok (.aload_n 0, 1) := by decide +kernel
theorem dX11_keepProgram_133 : decode cX11_keepProgram 133 = .ok (.getfield 66, 3) := by decide +kernel
theorem dX11_keepProgram_136 : decode cX11_keepProgram 136 = .ok (.iload_n 1, 1) := by decide +kernel
theorem dX11_keepProgram_137 : decode cX11_keepProgram 137 = .ok (.aload_n 0, 1) := by decide +kernel
theorem dX11_keepProgram_138 : decode cX11_keepProgram 138 = .ok (.getfield 32, 3) := by decide +kernel
theorem dX11_keepProgram_141 : decode cX11_keepProgram 141 = .ok (.iload_n 1, 1) := by decide +kernel
theorem dX11_keepProgram_142 : decode cX11_keepProgram 142 = .ok (.iaload, 1) := by decide +kernel
theorem dX11_keepProgram_143 : decode cX11_keepProgram 143 = .ok (.iastore, 1) := by decide +kernel
theorem dX11_keepProgram_144 : decode cX11_keepProgram 144 = .ok (.aload_n 0, 1) := by decide +kernel
theorem dX11_keepProgram_145 : decode cX11_keepProgram 145 = .ok (.getfield 69, 3) := by decide +kernel
theorem dX11_keepProgram_148 : decode cX11_keepProgram 148 = .ok (.iload_n 1, 1) := by decide +kernel
theorem dX11_keepProgram_149 : decode cX11_keepProgram 149 = .ok (.aload_n 0, 1) := by decide +kernel
theorem dX11_keepProgram_150 : decode cX11_keepProgram 150 = .ok (.getfield 35, 3) := by decide +kernel
theorem dX11_keepProgram_153 : decode cX11_keepProgram 153 = .ok (.iload_n 1, 1) := by decide +kernel
theorem dX11_keepProgram_154 : decode cX11_keepProgram 154 = .ok (.iaload, 1) := by decide +kernel
theorem dX11_keepProgram_155 : decode cX11_keepProgram 155 = .ok (.iastore, 1) := by decide +kernel
theorem dX11_keepProgram_156 : decode cX11_keepProgram 156 = .ok (.aload_n 0, 1) := by decide +kernel
theorem dX11_keepProgram_157 : decode cX11_keepProgram 157 = .ok (.getfield 72, 3) := by decide +kernel
theorem dX11_keepProgram_160 : decode cX11_keepProgram 160 = .ok (.iload_n 1, 1) := by decide +kernel
theorem dX11_keepProgram_161 : decode cX11_keepProgram 161 = .ok (.aload_n 0, 1) := by decide +kernel
theorem dX11_keepProgram_162 : decode cX11_keepProgram 162 = .ok (.getfield 38, 3) := by decide +kernel
theorem dX11_keepProgram_165 : decode cX11_keepProgram 165 = .ok (.iload_n 1, 1) := by decide +kernel
theorem dX11_keepProgram_166 : decode cX11_keepProgram 166 = .ok (.iaload, 1) := by decide +kernel
theorem dX11_keepProgram_167 : decode cX11_keepProgram 167 = .ok (.iastore, 1) := by decide +kernel
theorem dX11_keepProgram_168 : decode cX11_keepProgram 168 = .ok (.aload_n 0, 1) := by decide +kernel
theorem dX11_keepProgram_169 : decode cX11_keepProgram 169 = .ok (.getfield 75, 3) := by decide +kernel
theorem dX11_keepProgram_172 : decode cX11_keepProgram 172 = .ok (.iload_n 1, 1) := by decide +kernel
theorem dX11_keepProgram_173 : decode cX11_keepProgram 173 = .ok (.aload_n 0, 1) := by decide +kernel
theorem dX11_keepProgram_174 : decode cX11_keepProgram 174 = .ok (.getfield 41, 3) := by decide +kernel
theorem dX11_keepProgram_177 : decode cX11_keepProgram 177 = .ok (.iload_n 1, 1) := by decide +kernel
theorem dX11_keepProgram_178 : decode cX11_keepProgram 178 = .ok (.iaload, 1) := by decide +kernel
theorem dX11_keepProgram_179 : decode cX11_keepProgram 179 = .ok (.iastore, 1) := by decide +kernel
theorem dX11_keepProgram_180 : decode cX11_keepProgram 180 = .ok (.iinc 1 1, 3) := by decide +kernel
theorem dX11_keepProgram_183 : decode cX11_keepProgram 183 = .ok (.goto (-71), 3) := by decide +kernel
theorem dX11_keepProgram_186 : decode cX11_keepProgram 186 = .ok (.aload_n 0, 1) := by decide +kernel
theorem dX11_keepProgram_187 : decode cX11_keepProgram 187 = .ok (.invokevirtual 267, 3) := by decide +kernel
theorem dX11_keepProgram_190 : decode cX11_keepProgram 190 = .ok (.return_, 1) := by decide +kernel
theorem dX11_fault_0 : decode cX11_fault 0 = .ok (.aload_n 0, 1) := by decide +kernel
theorem dX11_fault_1 : decode cX11_fault 1 = .ok (.iconst 0, 1) := by decide +kernel
theorem dX11_fault_2 : decode cX11_fault 2 = .ok (.putfield 117, 3) := by decide +kernel
theorem dX11_fault_5 : decode cX11_fault 5 = .ok (.aload_n 0, 1) := by decide +kernel
theorem dX11_fault_6 : decode cX11_fault 6 = .ok (.getfield 125, 3) := by decide +kernel
theorem dX11_fault_9 : decode cX11_fault 9 = .ok (.ireturn, 1) := by decide +kernel
theorem dX11_place_0 : decode cX11_place 0 = .ok (.aload_n 0, 1) := by decide +kernel
theorem dX11_place_1 : decode cX11_place 1 = .ok (.iconst 0, 1) := by decide +kernel
theorem dX11_place_2 : decode cX11_place 2 = .ok (.putfield 117, 3) := by decide +kernel
theorem dX11_place_5 : decode cX11_place 5 = .ok (.aload_n 0, 1) := by decide +kernel
theorem dX11_place_6 : decode cX11_place 6 = .ok (.getfield 13, 3) := by decide +kernel
theorem dX11_place_9 : decode cX11_place 9 = .ok (.ireturn, 1) := by decide +kernel
theorem dX11_kindOf_0 : decode cX11_kindOf 0 = .ok (.iload_n 0, 1) := by decide +kernel
theorem dX11_kindOf_1 : decode cX11_kindOf 1 = .ok (.iconst 2, 1) := by decide +kernel
theorem dX11_kindOf_2 : decode cX11_kindOf 2 = .ok (.if_icmp .ne 7, 3) := by decide +kernel
theorem dX11_kindOf_5 : decode cX11_kindOf 5 = .ok (.iconst 1, 1) := by decide +kernel
theorem dX11_kindOf_6 : decode cX11_kindOf 6 = .ok (.goto 29, 3) := by decide +kernel
theorem dX11_kindOf_9 : decode cX11_kindOf 9 = .ok (.iload_n 0, 1) := by decide +kernel
theorem dX11_kindOf_10 : decode cX11_kindOf 10 = .ok (.iconst 5, 1) := by decide +kernel
theorem dX11_kindOf_11 : decode cX11_kindOf 11 = .ok (.if_icmp .eq 9, 3) := by decide +kernel
theorem dX11_kindOf_14 : decode cX11_kindOf 14 = .ok (.iload_n 0, 1) := by decide +kernel
theorem dX11_kindOf_15 : decode cX11_kindOf 15 = .ok (.bipush 6, 2) := by decide +kernel
theorem dX11_kindOf_17 : decode cX11_kindOf 17 = .ok (.if_icmp .ne 7, 3) := by decide +kernel
theorem dX11_kindOf_20 : decode cX11_kindOf 20 = .ok (.iconst 2, 1) := by decide +kernel
theorem dX11_kindOf_21 : decode cX11_kindOf 21 = .ok (.goto 14, 3) := by decide +kernel
theorem dX11_kindOf_24 : decode cX11_kindOf 24 = .ok (.iload_n 0, 1) := by decide +kernel
theorem dX11_kindOf_25 : decode cX11_kindOf 25 = .ok (.bipush 7, 2) := by decide +kernel
theorem dX11_kindOf_27 : decode cX11_kindOf 27 = .ok (.if_icmp .ne 7, 3) := by decide +kernel
theorem dX11_kindOf_30 : decode cX11_kindOf 30 = .ok (.iconst 3, 1) := by decide +kernel
theorem dX11_kindOf_31 : decode cX11_kindOf 31 = .ok (.goto 4, 3) := by decide +kernel
theorem dX11_kindOf_34 : decode cX11_kindOf 34 = .ok (.iconst 0, 1) := by decide +kernel
theorem dX11_kindOf_35 : decode cX11_kindOf 35 = .ok (.ireturn, 1) := by decide +kernel
theorem dX11_usesVariable_0 : decode cX11_usesVariable 0 = .ok (.aload_n 0, 1) := by decide +kernel
theorem dX11_usesVariable_1 : decode cX11_usesVariable 1 = .ok (.getfield 54, 3) := by decide +kernel
theorem dX11_usesVariable_4 : decode cX11_usesVariable 4 = .ok (.iconst 2, 1) := by decide +kernel
theorem dX11_usesVariable_5 : decode cX11_usesVariable 5 = .ok (.iload_n 1, 1) := by decide +kernel
theorem dX11_usesVariable_6 : decode cX11_usesVariable 6 = .ok (.imul, 1) := by decide +kernel
theorem dX11_usesVariable_7 : decode cX11_usesVariable 7 = .ok (.iaload, 1) := by decide +kernel
theorem dX11_usesVariable_8 : decode cX11_usesVariable 8 = .ok (.iconst 2, 1) := by decide +kernel
theorem dX11_usesVariable_9 : decode cX11_usesVariable 9 = .ok (.if_icmp .ne 15, 3) := by decide +kernel
theorem dX11_usesVariable_12 : decode cX11_usesVariable 12 = .ok (.aload_n 0, 1) := by decide +kernel
theorem dX11_usesVariable_13 : decode cX11_usesVariable 13 = .ok (.getfield 57, 3) := by decide +kernel
theorem dX11_usesVariable_16 : decode cX11_usesVariable 16 = .ok (.iconst 2, 1) := by decide +kernel
theorem dX11_usesVariable_17 : decode cX11_usesVariable 17 = .ok (.iload_n 1, 1) := by decide +kernel
theorem dX11_usesVariable_18 : decode cX11_usesVariable 18 = .ok (.imul, 1) := by decide +kernel
theorem dX11_usesVariable_19 : decode cX11_usesVariable 19 = .ok (.iaload, 1) := by decide +kernel
end
section
theorem dX11_usesVariable_20 : decode cX11_usesVariable 20 = .ok (.iload_n 2, 1) := by decide +kernel
theorem dX11_usesVariable_21 : decode cX11_usesVariable 21 = .ok (.if_icmp .eq 31, 3) := by decide +kernel
theorem dX11_usesVariable_24 : decode cX11_usesVariable 24 = .ok (.aload_n 0, 1) := by decide +kernel
theorem dX11_usesVariable_25 : decode cX11_usesVariable 25 = .ok (.getfield 54, 3) := by decide +kernel
theorem dX11_usesVariable_28 : decode cX11_usesVariable 28 = .ok (.iconst 2, 1) := by decide +kernel
theorem dX11_usesVariable_29 : decode cX11_usesVariable 29 = .ok (.iload_n 1, 1) := by decide +kernel
theorem dX11_usesVariable_30 : decode cX11_usesVariable 30 = .ok (.imul, 1) := by decide +kernel
theorem dX11_usesVariable_31 : decode cX11_usesVariable 31 = .ok (.iconst 1, 1) := by decide +kernel
theorem dX11_usesVariable_32 : decode cX11_usesVariable 32 = .ok (.iadd, 1) := by decide +kernel
theorem dX11_usesVariable_33 : decode cX11_usesVariable 33 = .ok (.iaload, 1) := by decide +kernel
theorem dX11_usesVariable_34 : decode cX11_usesVariable 34 = .ok (.iconst 2, 1) := by decide +kernel
theorem dX11_usesVariable_35 : decode cX11_usesVariable 35 = .ok (.if_icmp .ne 21, 3) := by decide +kernel
theorem dX11_usesVariable_38 : decode cX11_usesVariable 38 = .ok (.aload_n 0, 1) := by decide +kernel
theorem dX11_usesVariable_39 : decode cX11_usesVariable 39 = .ok (.getfield 57, 3) := by decide +kernel
theorem dX11_usesVariable_42 : decode cX11_usesVariable 42 = .ok (.iconst 2, 1) := by decide +kernel
theorem dX11_usesVariable_43 : decode cX11_usesVariable 43 = .ok (.iload_n 1, 1) := by decide +kernel
theorem dX11_usesVariable_44 : decode cX11_usesVariable 44 = .ok (.imul, 1) := by decide +kernel
theorem dX11_usesVariable_45 : decode cX11_usesVariable 45 = .ok (.iconst 1, 1) := by decide +kernel
theorem dX11_usesVariable_46 : decode cX11_usesVariable 46 = .ok (.iadd, 1) := by decide +kernel
theorem dX11_usesVariable_47 : decode cX11_usesVariable 47 = .ok (.iaload, 1) := by decide +kernel
theorem dX11_usesVariable_48 : decode cX11_usesVariable 48 = .ok (.iload_n 2, 1) := by decide +kernel
theorem dX11_usesVariable_49 : decode cX11_usesVariable 49 = .ok (.if_icmp .ne 7, 3) := by decide +kernel
theorem dX11_usesVariable_52 : decode cX11_usesVariable 52 = .ok (.iconst 1, 1) := by decide +kernel
theorem dX11_usesVariable_53 : decode cX11_usesVariable 53 = .ok (.goto 4, 3) := by decide +kernel
theorem dX11_usesVariable_56 : decode cX11_usesVariable 56 = .ok (.iconst 0, 1) := by decide +kernel
theorem dX11_usesVariable_57 : decode cX11_usesVariable 57 = .ok (.ireturn, 1) := by decide +kernel
theorem dX11_usesValue_0 : decode cX11_usesValue 0 = .ok (.aload_n 0, 1) := by decide +kernel
theorem dX11_usesValue_1 : decode cX11_usesValue 1 = .ok (.getfield 54, 3) := by decide +kernel
theorem dX11_usesValue_4 : decode cX11_usesValue 4 = .ok (.iconst 2, 1) := by decide +kernel
theorem dX11_usesValue_5 : decode cX11_usesValue 5 = .ok (.iload_n 1, 1) := by decide +kernel
theorem dX11_usesValue_6 : decode cX11_usesValue 6 = .ok (.imul, 1) := by decide +kernel
theorem dX11_usesValue_7 : decode cX11_usesValue 7 = .ok (.iaload, 1) := by decide +kernel
theorem dX11_usesValue_8 : decode cX11_usesValue 8 = .ok (.iconst 3, 1) := by decide +kernel
theorem dX11_usesValue_9 : decode cX11_usesValue 9 = .ok (.if_icmp .ne 15, 3) := by decide +kernel
theorem dX11_usesValue_12 : decode cX11_usesValue 12 = .ok (.aload_n 0, 1) := by decide +kernel
theorem dX11_usesValue_13 : decode cX11_usesValue 13 = .ok (.getfield 57, 3) := by decide +kernel
theorem dX11_usesValue_16 : decode cX11_usesValue 16 = .ok (.iconst 2, 1) := by decide +kernel
theorem dX11_usesValue_17 : decode cX11_usesValue 17 = .ok (.iload_n 1, 1) := by decide +kernel
theorem dX11_usesValue_18 : decode cX11_usesValue 18 = .ok (.imul, 1) := by decide +kernel
theorem dX11_usesValue_19 : decode cX11_usesValue 19 = .ok (.iaload, 1) := by decide +kernel
theorem dX11_usesValue_20 : decode cX11_usesValue 20 = .ok (.iload_n 2, 1) := by decide +kernel
theorem dX11_usesValue_21 : decode cX11_usesValue 21 = .ok (.if_icmp .eq 31, 3) := by decide +kernel
theorem dX11_usesValue_24 : decode cX11_usesValue 24 = .ok (.aload_n 0, 1) := by decide +kernel
theorem dX11_usesValue_25 : decode cX11_usesValue 25 = .ok (.getfield 54, 3) := by decide +kernel
theorem dX11_usesValue_28 : decode cX11_usesValue 28 = .ok (.iconst 2, 1) := by decide +kernel
theorem dX11_usesValue_29 : decode cX11_usesValue 29 = .ok (.iload_n 1, 1) := by decide +kernel
theorem dX11_usesValue_30 : decode cX11_usesValue 30 = .ok (.imul, 1) := by decide +kernel
theorem dX11_usesValue_31 : decode cX11_usesValue 31 = .ok (.iconst 1, 1) := by decide +kernel
theorem dX11_usesValue_32 : decode cX11_usesValue 32 = .ok (.iadd, 1) := by decide +kernel
theorem dX11_usesValue_33 : decode cX11_usesValue 33 = .ok (.iaload, 1) := by decide +kernel
theorem dX11_usesValue_34 : decode cX11_usesValue 34 = .ok (.iconst 3, 1) := by decide +kernel
theorem dX11_usesValue_35 : decode cX11_usesValue 35 = .ok (.if_icmp .ne 21, 3) := by decide +kernel
theorem dX11_usesValue_38 : decode cX11_usesValue 38 = .ok (.aload_n 0, 1) := by decide +kernel
theorem dX11_usesValue_39 : decode cX11_usesValue 39 = .ok (.getfield 57, 3) := by decide +kernel
theorem dX11_usesValue_42 : decode cX11_usesValue 42 = .ok (.iconst 2, 1) := by decide +kernel
theorem dX11_usesValue_43 : decode cX11_usesValue 43 = .ok (.iload_n 1, 1) := by decide +kernel
theorem dX11_usesValue_44 : decode cX11_usesValue 44 = .ok (.imul, 1) := by decide +kernel
theorem dX11_usesValue_45 : decode cX11_usesValue 45 = .ok (.iconst 1, 1) := by decide +kernel
theorem dX11_usesValue_46 : decode cX11_usesValue 46 = .ok (.iadd, 1) := by decide +kernel
theorem dX11_usesValue_47 : decode cX11_usesValue 47 = .ok (.iaload, 1) := by decide +kernel
theorem dX11_usesValue_48 : decode cX11_usesValue 48 = .ok (.iload_n 2, 1) := by decide +kernel
theorem dX11_usesValue_49 : decode cX11_usesValue 49 = .ok (.if_icmp .ne 7, 3) := by decide +kernel
theorem dX11_usesValue_52 : decode cX11_usesValue 52 = .ok (.iconst 1, 1) := by decide +kernel
theorem dX11_usesValue_53 : decode cX11_usesValue 53 = .ok (.goto 4, 3) := by decide +kernel
theorem dX11_usesValue_56 : decode cX11_usesValue 56 = .ok (.iconst 0, 1) := by decide +kernel
theorem dX11_usesValue_57 : decode cX11_usesValue 57 = .ok (.ireturn, 1) := by decide +kernel
theorem dX11_comesBehind_0 : decode cX11_comesBehind 0 = .ok (.aload_n 0, 1) := by decide +kernel
theorem dX11_comesBehind_1 : decode cX11_comesBehind 1 = .ok (.iload_n 1, 1) := by decide +kernel
theorem dX11_comesBehind_2 : decode cX11_comesBehind 2 = .ok (.iload_n 2, 1) := by decide +kernel
theorem dX11_comesBehind_3 : decode cX11_comesBehind 3 = .ok (.invokevirtual 270, 3) := by decide +kernel
theorem dX11_comesBehind_6 : decode cX11_comesBehind 6 = .ok (.ifCond .eq 5, 3) := by decide +kernel
theorem dX11_comesBehind_9 : decode cX11_comesBehind 9 = .ok (.iconst 1, 1) := by decide +kernel
theorem dX11_comesBehind_10 : decode cX11_comesBehind 10 = .ok (.ireturn, 1) := by decide +kernel
theorem dX11_comesBehind_11 : decode cX11_comesBehind 11 = .ok (.aload_n 0, 1) := by decide +kernel
theorem dX11_comesBehind_12 : decode cX11_comesBehind 12 = .ok (.getfield 60, 3) := by decide +kernel
theorem dX11_comesBehind_15 : decode cX11_comesBehind 15 = .ok (.iload_n 2, 1) := by decide +kernel
theorem dX11_comesBehind_16 : decode cX11_comesBehind 16 = .ok (.iaload, 1) := by decide +kernel
theorem dX11_comesBehind_17 : decode cX11_comesBehind 17 = .ok (.ifCond .lt 34, 3) := by decide +kernel
theorem dX11_comesBehind_20 : decode cX11_comesBehind 20 = .ok (.aload_n 0, 1) := by decide +kernel
theorem dX11_comesBehind_21 : decode cX11_comesBehind 21 = .ok (.iload_n 1, 1) := by decide +kernel
theorem dX11_comesBehind_22 : decode cX11_comesBehind 22 = .ok (.aload_n 0, 1) := by decide +kernel
theorem dX11_comesBehind_23 : decode cX11_comesBehind 23 = .ok (.getfield 60, 3) := by decide +kernel
theorem dX11_comesBehind_26 : decode cX11_comesBehind 26 = .ok (.iload_n 2, 1) := by decide +kernel
theorem dX11_comesBehind_27 : decode cX11_comesBehind 27 = .ok (.iaload, 1) := by decide +kernel
theorem dX11_comesBehind_28 : decode cX11_comesBehind 28 = .ok (.invokevirtual 274, 3) := by decide +kernel
theorem dX11_comesBehind_31 : decode cX11_comesBehind 31 = .ok (.ifCond .ne 18, 3) := by decide +kernel
theorem dX11_comesBehind_34 : decode cX11_comesBehind 34 = .ok (.aload_n 0, 1) := by decide +kernel
theorem dX11_comesBehind_35 : decode cX11_comesBehind 35 = .ok (.getfield 60, 3) := by decide +kernel
theorem dX11_comesBehind_38 : decode cX11_comesBehind 38 = .ok (.iload_n 1, 1) := by decide +kernel
theorem dX11_comesBehind_39 : decode cX11_comesBehind 39 = .ok (.iaload, 1) := by decide +kernel
theorem dX11_comesBehind_40 : decode cX11_comesBehind 40 = .ok (.aload_n 0, 1) := by decide +kernel
theorem dX11_comesBehind_41 : decode cX11_comesBehind 41 = .ok (.getfield 60, 3) := by decide +kernel
theorem dX11_comesBehind_44 : decode cX11_comesBehind 44 = .ok (.iload_n 2, 1) := by decide +kernel
theorem dX11_comesBehind_45 : decode cX11_comesBehind 45 = .ok (.iaload, 1) := by decide +kernel
theorem dX11_comesBehind_46 : decode cX11_comesBehind 46 = .ok (.if_icmp .ne 5, 3) := by decide +kernel
theorem dX11_comesBehind_49 : decode cX11_comesBehind 49 = .ok (.iconst 1, 1) := by decide +kernel
theorem dX11_comesBehind_50 : decode cX11_comesBehind 50 = .ok (.ireturn, 1) := by decide +kernel
theorem dX11_comesBehind_51 : decode cX11_comesBehind 51 = .ok (.aload_n 0, 1) := by decide +kernel
theorem dX11_comesBehind_52 : decode cX11_comesBehind 52 = .ok (.getfield 60, 3) := by decide +kernel
theorem dX11_comesBehind_55 : decode cX11_comesBehind 55 = .ok (.iload_n 1, 1) := by decide +kernel
theorem dX11_comesBehind_56 : decode cX11_comesBehind 56 = .ok (.iaload, 1) := by decide +kernel
theorem dX11_comesBehind_57 : decode cX11_comesBehind 57 = .ok (.ifCond .lt 19, 3) := by decide +kernel
theorem dX11_comesBehind_60 : decode cX11_comesBehind 60 = .ok (.aload_n 0, 1) := by decide +kernel
theorem dX11_comesBehind_61 : decode cX11_comesBehind 61 = .ok (.iload_n 2, 1) := by decide +kernel
theorem dX11_comesBehind_62 : decode cX11_comesBehind 62 = .ok (.aload_n 0, 1) := by decide +kernel
theorem dX11_comesBehind_63 : decode cX11_comesBehind 63 = .ok (.getfield 60, 3) := by decide +kernel
theorem dX11_comesBehind_66 : decode cX11_comesBehind 66 = .ok (.iload_n 1, 1) := by decide +kernel
theorem dX11_comesBehind_67 : decode cX11_comesBehind 67 = .ok (.iaload, 1) := by decide +kernel
theorem dX11_comesBehind_68 : decode cX11_comesBehind 68 = .ok (.invokevirtual 274, 3) := by decide +kernel
theorem dX11_comesBehind_71 : decode cX11_comesBehind 71 = .ok (.ifCond .eq 5, 3) := by decide +kernel
theorem dX11_comesBehind_74 : decode cX11_comesBehind 74 = .ok (.iconst 1, 1) := by decide +kernel
theorem dX11_comesBehind_75 : decode cX11_comesBehind 75 = .ok (.ireturn, 1) := by decide +kernel
theorem dX11_comesBehind_76 : decode cX11_comesBehind 76 = .ok (.aload_n 0, 1) := by decide +kernel
theorem dX11_comesBehind_77 : decode cX11_comesBehind 77 = .ok (.getfield 51, 3) := by decide +kernel
theorem dX11_comesBehind_80 : decode cX11_comesBehind 80 = .ok (.iload_n 2, 1) := by decide +kernel
theorem dX11_comesBehind_81 : decode cX11_comesBehind 81 = .ok (.iaload, 1) := by decide +kernel
theorem dX11_comesBehind_82 : decode cX11_comesBehind 82 = .ok (.invokestatic 277, 3) := by decide +kernel
theorem dX11_comesBehind_85 : decode cX11_comesBehind 85 = .ok (.iconst 2, 1) := by decide +kernel
theorem dX11_comesBehind_86 : decode cX11_comesBehind 86 = .ok (.if_icmp .ne 20, 3) := by decide +kernel
theorem dX11_comesBehind_89 : decode cX11_comesBehind 89 = .ok (.aload_n 0, 1) := by decide +kernel
theorem dX11_comesBehind_90 : decode cX11_comesBehind 90 = .ok (.getfield 51, 3) := by decide +kernel
theorem dX11_comesBehind_93 : decode cX11_comesBehind 93 = .ok (.iload_n 1, 1) := by decide +kernel
theorem dX11_comesBehind_94 : decode cX11_comesBehind 94 = .ok (.iaload, 1) := by decide +kernel
theorem dX11_comesBehind_95 : decode cX11_comesBehind 95 = .ok (.invokestatic 277, 3) := by decide +kernel
theorem dX11_comesBehind_98 : decode cX11_comesBehind 98 = .ok (.iconst 2, 1) := by decide +kernel
theorem dX11_comesBehind_99 : decode cX11_comesBehind 99 = .ok (.if_icmp .ne 7, 3) := by decide +kernel
theorem dX11_comesBehind_102 : decode cX11_comesBehind 102 = .ok (.iconst 1, 1) := by decide +kernel
theorem dX11_comesBehind_103 : decode cX11_comesBehind 103 = .ok (.goto 4, 3) := by decide +kernel
theorem dX11_comesBehind_106 : decode cX11_comesBehind 106 = .ok (.iconst 0, 1) := by decide +kernel
theorem dX11_comesBehind_107 : decode cX11_comesBehind 107 = .ok (.istore_n 3, 1) := by decide +kernel
theorem dX11_comesBehind_108 : decode cX11_comesBehind 108 = .ok (.iload_n 3, 1) := by decide +kernel
theorem dX11_comesBehind_109 : decode cX11_comesBehind 109 = .ok (.ifCond .eq 29, 3) := by decide +kernel
theorem dX11_comesBehind_112 : decode cX11_comesBehind 112 = .ok (.aload_n 0, 1) := by decide +kernel
theorem dX11_comesBehind_113 : decode cX11_comesBehind 113 = .ok (.getfield 51, 3) := by decide +kernel
theorem dX11_comesBehind_116 : decode cX11_comesBehind 116 = .ok (.iload_n 2, 1) := by decide +kernel
theorem dX11_comesBehind_117 : decode cX11_comesBehind 117 = .ok (.iaload, 1) := by decide +kernel
theorem dX11_comesBehind_118 : decode cX11_comesBehind 118 = .ok (.bipush 6, 2) := by decide +kernel
theorem dX11_comesBehind_120 : decode cX11_comesBehind 120 = .ok (.if_icmp .eq 14, 3) := by decide +kernel
theorem dX11_comesBehind_123 : decode cX11_comesBehind 123 = .ok (.aload_n 0, 1) := by decide +kernel
theorem dX11_comesBehind_124 : decode cX11_comesBehind 124 = .ok (.getfield 51, 3) := by decide +kernel
theorem dX11_comesBehind_127 : decode cX11_comesBehind 127 = .ok (.iload_n 1, 1) := by decide +kernel
theorem dX11_comesBehind_128 : decode cX11_comesBehind 128 = .ok (.iaload, 1) := by decide +kernel
theorem dX11_comesBehind_129 : decode cX11_comesBehind 129 = .ok (.bipush 6, 2) := by decide +kernel
theorem dX11_comesBehind_131 : decode cX11_comesBehind 131 = .ok (.if_icmp .ne 7, 3) := by decide +kernel
theorem dX11_comesBehind_134 : decode cX11_comesBehind 134 = .ok (.iconst 1, 1) := by decide +kernel
theorem dX11_comesBehind_135 : decode cX11_comesBehind 135 = .ok (.goto 4, 3) := by decide +kernel
theorem dX11_comesBehind_138 : decode cX11_comesBehind 138 = .ok (.iconst 0, 1) := by decide +kernel
theorem dX11_comesBehind_139 : decode cX11_comesBehind 139 = .ok (.ireturn, 1) := by decide +kernel
theorem dX11_first_0 : decode cX11_first 0 = .ok (.iconst 0, 1) := by decide +kernel
theorem dX11_first_1 : decode cX11_first 1 = .ok (.istore_n 2, 1) := by decide +kernel
theorem dX11_first_2 : decode cX11_first 2 = .ok (.iload_n 2, 1) := by decide +kernel
theorem dX11_first_3 : decode cX11_first 3 = .ok (.aload_n 0, 1) := by decide +kernel
theorem dX11_first_4 : decode cX11_first 4 = .ok (.getfield 261, 3) := by decide +kernel
theorem dX11_first_7 : decode cX11_first 7 = .ok (.if_icmp .ge 21, 3) := by decide +kernel
theorem dX11_first_10 : decode cX11_first 10 = .ok (.aload_n 0, 1) := by decide +kernel
theorem dX11_first_11 : decode cX11_first 11 = .ok (.getfield 63, 3) := by decide +kernel
theorem dX11_first_14 : decode cX11_first 14 = .ok (.iload_n 2, 1) := by decide +kernel
theorem dX11_first_15 : decode cX11_first 15 = .ok (.iaload, 1) := by decide +kernel
theorem dX11_first_16 : decode cX11_first 16 = .ok (.iload_n 1, 1) := by decide +kernel
theorem dX11_first_17 : decode cX11_first 17 = .ok (.if_icmp .ne 5, 3) := by decide +kernel
theorem dX11_first_20 : decode cX11_first 20 = .ok (.iload_n 2, 1) := by decide +kernel
theorem dX11_first_21 : decode cX11_first 21 = .ok (.ireturn, 1) := by decide +kernel
theorem dX11_first_22 : decode cX11_first 22 = .ok (.iinc 2 1, 3) := by decide +kernel
theorem dX11_first_25 : decode cX11_first 25 = .ok (.goto (-23), 3) := by decide +kernel
theorem dX11_first_28 : decode cX11_first 28 = .ok (.iconst (-1), 1) := by decide +kernel
theorem dX11_first_29 : decode cX11_first 29 = .ok (.ireturn, 1) := by decide +kernel
theorem dX11_behindAll_0 : decode cX11_behindAll 0 = .ok (.iconst 0, 1) := by decide +kernel
theorem dX11_behindAll_1 : decode cX11_behindAll 1 = .ok (.istore_n 2, 1) := by decide +kernel
theorem dX11_behindAll_2 : decode cX11_behindAll 2 = .ok (.iconst 0, 1) := by decide +kernel
theorem dX11_behindAll_3 : decode cX11_behindAll 3 = .ok (.istore_n 3, 1) := by decide +kernel
theorem dX11_behindAll_4 : decode cX11_behindAll 4 = .ok (.iload_n 3, 1) := by decide +kernel
theorem dX11_behindAll_5 : decode cX11_behindAll 5 = .ok (.aload_n 0, 1) := by decide +kernel
theorem dX11_behindAll_6 : decode cX11_behindAll 6 = .ok (.getfield 261, 3) := by decide +kernel
theorem dX11_behindAll_9 : decode cX11_behindAll 9 = .ok (.if_icmp .ge 27, 3) := by decide +kernel
theorem dX11_behindAll_12 : decode cX11_behindAll 12 = .ok (.aload_n 0, 1) := by decide +kernel
theorem dX11_behindAll_13 : decode cX11_behindAll 13 = .ok (.getfield 63, 3) := by decide +kernel
theorem dX11_behindAll_16 : decode cX11_behindAll 16 = .ok (.iload_n 3, 1) := by decide +kernel
theorem dX11_behindAll_17 : decode cX11_behindAll 17 = .ok (.iaload, 1) := by decide +kernel
theorem dX11_behindAll_18 : decode cX11_behindAll 18 = .ok (.iload_n 1, 1) := by decide +kernel
theorem dX11_behindAll_19 : decode cX11_behindAll 19 = .ok (.if_icmp .ne 9, 3) := by decide +kernel
theorem dX11_behindAll_22 : decode cX11_behindAll 22 = .ok (.iload_n 3, 1) := by decide +kernel
theorem dX11_behindAll_23 : decode cX11_behindAll 23 = .ok (.iconst 1, 1) := by decide +kernel
theorem dX11_behindAll_24 : decode cX11_behindAll 24 = .ok (.iadd, 1) := by decide +kernel
theorem dX11_behindAll_25 : decode cX11_behindAll 25 = .ok (.goto 4, 3) := by decide +kernel
theorem dX11_behindAll_28 : decode cX11_behindAll 28 = .ok (.iload_n 2, 1) := by decide +kernel
theorem dX11_behindAll_29 : decode cX11_behindAll 29 = .ok (.istore_n 2, 1) := by decide +kernel
theorem dX11_behindAll_30 : decode cX11_behindAll 30 = .ok (.iinc 3 1, 3) := by decide +kernel
theorem dX11_behindAll_33 : decode cX11_behindAll 33 = .ok (.goto (-29), 3) := by decide +kernel
theorem dX11_behindAll_36 : decode cX11_behindAll 36 = .ok (.iload_n 2, 1) := by decide +kernel
theorem dX11_behindAll_37 : decode cX11_behindAll 37 = .ok (.ireturn, 1) := by decide +kernel
theorem dX11_latencyOf_0 : decode cX11_latencyOf 0 = .ok (.aload_n 0, 1) := by decide +kernel
theorem dX11_latencyOf_1 : decode cX11_latencyOf 1 = .ok (.getfield 84, 3) := by decide +kernel
theorem dX11_latencyOf_4 : decode cX11_latencyOf 4 = .ok (.aload_n 0, 1) := by decide +kernel
theorem dX11_latencyOf_5 : decode cX11_latencyOf 5 = .ok (.getfield 51, 3) := by decide +kernel
theorem dX11_latencyOf_8 : decode cX11_latencyOf 8 = .ok (.iload_n 1, 1) := by decide +kernel
theorem dX11_latencyOf_9 : decode cX11_latencyOf 9 = .ok (.iaload, 1) := by decide +kernel
theorem dX11_latencyOf_10 : decode cX11_latencyOf 10 = .ok (.invokestatic 277, 3) := by decide +kernel
theorem dX11_latencyOf_13 : decode cX11_latencyOf 13 = .ok (.iaload, 1) := by decide +kernel
theorem dX11_latencyOf_14 : decode cX11_latencyOf 14 = .ok (.ireturn, 1) := by decide +kernel
theorem dX11_endOf_0 : decode cX11_endOf 0 = .ok (.aload_n 0, 1) := by decide +kernel
theorem dX11_endOf_1 : decode cX11_endOf 1 = .ok (.getfield 90, 3) := by decide +kernel
theorem dX11_endOf_4 : decode cX11_endOf 4 = .ok (.iload_n 1, 1) := by decide +kernel
theorem dX11_endOf_5 : decode cX11_endOf 5 = .ok (.iaload, 1) := by decide +kernel
theorem dX11_endOf_6 : decode cX11_endOf 6 = .ok (.aload_n 0, 1) := by decide +kernel
theorem dX11_endOf_7 : decode cX11_endOf 7 = .ok (.iload_n 1, 1) := by decide +kernel
theorem dX11_endOf_8 : decode cX11_endOf 8 = .ok (.invokevirtual 280, 3) := by decide +kernel
theorem dX11_endOf_11 : decode cX11_endOf 11 = .ok (.iadd, 1) := by decide +kernel
theorem dX11_endOf_12 : decode cX11_endOf 12 = .ok (.ireturn, 1) := by decide +kernel
theorem dX11_isReady_0 : decode cX11_isReady 0 = .ok (.aload_n 0, 1) := by decide +kernel
theorem dX11_isReady_1 : decode cX11_isReady 1 = .ok (.iload_n 2, 1) := by decide +kernel
theorem dX11_isReady_2 : decode cX11_isReady 2 = .ok (.invokevirtual 283, 3) := by decide +kernel
theorem dX11_isReady_5 : decode cX11_isReady 5 = .ok (.istore 4, 2) := by decide +kernel
theorem dX11_isReady_7 : decode cX11_isReady 7 = .ok (.iload 4, 2) := by decide +kernel
theorem dX11_isReady_9 : decode cX11_isReady 9 = .ok (.iload_n 1, 1) := by decide +kernel
theorem dX11_isReady_10 : decode cX11_isReady 10 = .ok (.if_icmp .ge 41, 3) := by decide +kernel
theorem dX11_isReady_13 : decode cX11_isReady 13 = .ok (.aload_n 0, 1) := by decide +kernel
theorem dX11_isReady_14 : decode cX11_isReady 14 = .ok (.iload_n 1, 1) := by decide +kernel
theorem dX11_isReady_15 : decode cX11_isReady 15 = .ok (.iload 4, 2) := by decide +kernel
theorem dX11_isReady_17 : decode cX11_isReady 17 = .ok (.invokevirtual 286, 3) := by decide +kernel
theorem dX11_isReady_20 : decode cX11_isReady 20 = .ok (.ifCond .eq 25, 3) := by decide +kernel
theorem dX11_isReady_23 : decode cX11_isReady 23 = .ok (.aload_n 0, 1) := by decide +kernel
theorem dX11_isReady_24 : decode cX11_isReady 24 = .ok (.getfield 90, 3) := by decide +kernel
theorem dX11_isReady_27 : decode cX11_isReady 27 = .ok (.iload 4, 2) := by decide +kernel
theorem dX11_isReady_29 : decode cX11_isReady 29 = .ok (.iaload, 1) := by decide +kernel
theorem dX11_isReady_30 : decode cX11_isReady 30 = .ok (.ifCond .lt 13, 3) := by decide +kernel
theorem dX11_isReady_33 : decode cX11_isReady 33 = .ok (.aload_n 0, 1) := by decide +kernel
theorem dX11_isReady_34 : decode cX11_isReady 34 = .ok (.iload 4, 2) := by decide +kernel
theorem dX11_isReady_36 : decode cX11_isReady 36 = .ok (.invokevirtual 289, 3) := by decide +kernel
theorem dX11_isReady_39 : decode cX11_isReady 39 = .ok (.iload_n 3, 1) := by decide +kernel
theorem dX11_isReady_40 : decode cX11_isReady 40 = .ok (.if_icmp .le 5, 3) := by decide +kernel
theorem dX11_isReady_43 : decode cX11_isReady 43 = .ok (.iconst 0, 1) := by decide +kernel
theorem dX11_isReady_44 : decode cX11_isReady 44 = .ok (.ireturn, 1) := by decide +kernel
theorem dX11_isReady_45 : decode cX11_isReady 45 = .ok (.iinc 4 1, 3) := by decide +kernel
theorem dX11_isReady_48 : decode cX11_isReady 48 = .ok (.goto (-41), 3) := by decide +kernel
theorem dX11_isReady_51 : decode cX11_isReady 51 = .ok (.iconst 1, 1) := by decide +kernel
theorem dX11_isReady_52 : decode cX11_isReady 52 = .ok (.ireturn, 1) := by decide +kernel
theorem dX11_freeUnit_0 : decode cX11_freeUnit 0 = .ok (.aload_n 0, 1) := by decide +kernel
theorem dX11_freeUnit_1 : decode cX11_freeUnit 1 = .ok (.getfield 51, 3) := by decide +kernel
theorem dX11_freeUnit_4 : decode cX11_freeUnit 4 = .ok (.iload_n 1, 1) := by decide +kernel
theorem dX11_freeUnit_5 : decode cX11_freeUnit 5 = .ok (.iaload, 1) := by decide +kernel
theorem dX11_freeUnit_6 : decode cX11_freeUnit 6 = .ok (.invokestatic 277, 3) := by decide +kernel
theorem dX11_freeUnit_9 : decode cX11_freeUnit 9 = .ok (.istore 4, 2) := by decide +kernel
theorem dX11_freeUnit_11 : decode cX11_freeUnit 11 = .ok (.aload_n 0, 1) := by decide +kernel
theorem dX11_freeUnit_12 : decode cX11_freeUnit 12 = .ok (.iload_n 2, 1) := by decide +kernel
theorem dX11_freeUnit_13 : decode cX11_freeUnit 13 = .ok (.invokevirtual 283, 3) := by decide +kernel
theorem dX11_freeUnit_16 : decode cX11_freeUnit 16 = .ok (.istore 5, 2) := by decide +kernel
theorem dX11_freeUnit_18 : decode cX11_freeUnit 18 = .ok (.aload_n 0, 1) := by decide +kernel
theorem dX11_freeUnit_19 : decode cX11_freeUnit 19 = .ok (.iload_n 2, 1) := by decide +kernel
theorem dX11_freeUnit_20 : decode cX11_freeUnit 20 = .ok (.invokevirtual 292, 3) := by decide +kernel
theorem dX11_freeUnit_23 : decode cX11_freeUnit 23 = .ok (.istore 6, 2) := by decide +kernel
theorem dX11_freeUnit_25 : decode cX11_freeUnit 25 = .ok (.iconst 0, 1) := by decide +kernel
theorem dX11_freeUnit_26 : decode cX11_freeUnit 26 = .ok (.istore 7, 2) := by decide +kernel
theorem dX11_freeUnit_28 : decode cX11_freeUnit 28 = .ok (.iload 4, 2) := by decide +kernel
theorem dX11_freeUnit_30 : decode cX11_freeUnit 30 = .ok (.iconst 3, 1) := by decide +kernel
theorem dX11_freeUnit_31 : decode cX11_freeUnit 31 = .ok (.if_icmp .eq 15, 3) := by decide +kernel
theorem dX11_freeUnit_34 : decode cX11_freeUnit 34 = .ok (.iload 7, 2) := by decide +kernel
theorem dX11_freeUnit_36 : decode cX11_freeUnit 36 = .ok (.aload_n 0, 1) := by decide +kernel
theorem dX11_freeUnit_37 : decode cX11_freeUnit 37 = .ok (.getfield 81, 3) := by decide +kernel
theorem dX11_freeUnit_40 : decode cX11_freeUnit 40 = .ok (.iload 4, 2) := by decide +kernel
theorem dX11_freeUnit_42 : decode cX11_freeUnit 42 = .ok (.iaload, 1) := by decide +kernel
theorem dX11_freeUnit_43 : decode cX11_freeUnit 43 = .ok (.if_icmp .ge 119, 3) := by decide +kernel
theorem dX11_freeUnit_46 : decode cX11_freeUnit 46 = .ok (.iconst 1, 1) := by decide +kernel
theorem dX11_freeUnit_47 : decode cX11_freeUnit 47 = .ok (.istore 8, 2) := by decide +kernel
theorem dX11_freeUnit_49 : decode cX11_freeUnit 49 = .ok (.iload 5, 2) := by decide +kernel
theorem dX11_freeUnit_51 : decode cX11_freeUnit 51 = .ok (.istore 9, 2) := by decide +kernel
theorem dX11_freeUnit_53 : decode cX11_freeUnit 53 = .ok (.iload 9, 2) := by decide +kernel
theorem dX11_freeUnit_55 : decode cX11_freeUnit 55 = .ok (.iload 6, 2) := by decide +kernel
theorem dX11_freeUnit_57 : decode cX11_freeUnit 57 = .ok (.if_icmp .ge 91, 3) := by decide +kernel
theorem dX11_freeUnit_60 : decode cX11_freeUnit 60 = .ok (.aload_n 0, 1) := by decide +kernel
theorem dX11_freeUnit_61 : decode cX11_freeUnit 61 = .ok (.getfield 90, 3) := by decide +kernel
theorem dX11_freeUnit_64 : decode cX11_freeUnit 64 = .ok (.iload 9, 2) := by decide +kernel
theorem dX11_freeUnit_66 : decode cX11_freeUnit 66 = .ok (.iaload, 1) := by decide +kernel
theorem dX11_freeUnit_67 : decode cX11_freeUnit 67 = .ok (.ifCond .lt 28, 3) := by decide +kernel
theorem dX11_freeUnit_70 : decode cX11_freeUnit 70 = .ok (.aload_n 0, 1) := by decide +kernel
theorem dX11_freeUnit_71 : decode cX11_freeUnit 71 = .ok (.getfield 90, 3) := by decide +kernel
theorem dX11_freeUnit_74 : decode cX11_freeUnit 74 = .ok (.iload 9, 2) := by decide +kernel
theorem dX11_freeUnit_76 : decode cX11_freeUnit 76 = .ok (.iaload, 1) := by decide +kernel
theorem dX11_freeUnit_77 : decode cX11_freeUnit 77 = .ok (.iload_n 3, 1) := by decide +kernel
theorem dX11_freeUnit_78 : decode cX11_freeUnit 78 = .ok (.if_icmp .gt 17, 3) := by decide +kernel
theorem dX11_freeUnit_81 : decode cX11_freeUnit 81 = .ok (.aload_n 0, 1) := by decide +kernel
theorem dX11_freeUnit_82 : decode cX11_freeUnit 82 = .ok (.iload 9, 2) := by decide +kernel
theorem dX11_freeUnit_84 : decode cX11_freeUnit 84 = .ok (.invokevirtual 289, 3) := by decide +kernel
theorem dX11_freeUnit_87 : decode cX11_freeUnit 87 = .ok (.iload_n 3, 1) := by decide +kernel
theorem dX11_freeUnit_88 : decode cX11_freeUnit 88 = .ok (.if_icmp .le 7, 3) := by decide +kernel
theorem dX11_freeUnit_91 : decode cX11_freeUnit 91 = .ok (.iconst 1, 1) := by decide +kernel
theorem dX11_freeUnit_92 : decode cX11_freeUnit 92 = .ok (.goto 4, 3) := by decide +kernel
theorem dX11_freeUnit_95 : decode cX11_freeUnit 95 = .ok (.iconst 0, 1) := by decide +kernel
theorem dX11_freeUnit_96 : decode cX11_freeUnit 96 = .ok (.istore 10, 2) := by decide +kernel
theorem dX11_freeUnit_98 : decode cX11_freeUnit 98 = .ok (.iload 8, 2) := by decide +kernel
theorem dX11_freeUnit_100 : decode cX11_freeUnit 100 = .ok (.ifCond .eq 39, 3) := by decide +kernel
theorem dX11_freeUnit_103 : decode cX11_freeUnit 103 = .ok (.iload 10, 2) := by decide +kernel
theorem dX11_freeUnit_105 : decode cX11_freeUnit 105 = .ok (.ifCond .eq 30, 3) := by decide +kernel
theorem dX11_freeUnit_108 : decode cX11_freeUnit 108 = .ok (.aload_n 0, 1) := by decide +kernel
theorem dX11_freeUnit_109 : decode cX11_freeUnit 109 = .ok (.getfield 51, 3) := by decide +kernel
theorem dX11_freeUnit_112 : decode cX11_freeUnit 112 = .ok (.iload 9, 2) := by decide +kernel
theorem dX11_freeUnit_114 : decode cX11_freeUnit 114 = .ok (.iaload, 1) := by decide +kernel
theorem dX11_freeUnit_115 : decode cX11_freeUnit 115 = .ok (.invokestatic 277, 3) := by decide +kernel
theorem dX11_freeUnit_118 : decode cX11_freeUnit 118 = .ok (.iload 4, 2) := by decide +kernel
theorem dX11_freeUnit_120 : decode cX11_freeUnit 120 = .ok (.if_icmp .ne 15, 3) := by decide +kernel
theorem dX11_freeUnit_123 : decode cX11_freeUnit 123 = .ok (.aload_n 0, 1) := by decide +kernel
theorem dX11_freeUnit_124 : decode cX11_freeUnit 124 = .ok (.getfield 93, 3) := by decide +kernel
theorem dX11_freeUnit_127 : decode cX11_freeUnit 127 = .ok (.iload 9, 2) := by decide +kernel
theorem dX11_freeUnit_129 : decode cX11_freeUnit 129 = .ok (.iaload, 1) := by decide +kernel
theorem dX11_freeUnit_130 : decode cX11_freeUnit 130 = .ok (.iload 7, 2) := by decide +kernel
theorem dX11_freeUnit_132 : decode cX11_freeUnit 132 = .ok (.if_icmp .eq 7, 3) := by decide +kernel
theorem dX11_freeUnit_135 : decode cX11_freeUnit 135 = .ok (.iconst 1, 1) := by decide +kernel
theorem dX11_freeUnit_136 : decode cX11_freeUnit 136 = .ok (.goto 4, 3) := by decide +kernel
theorem dX11_freeUnit_139 : decode cX11_freeUnit 139 = .ok (.iconst 0, 1) := by decide +kernel
theorem dX11_freeUnit_140 : decode cX11_freeUnit 140 = .ok (.istore 8, 2) := by decide +kernel
theorem dX11_freeUnit_142 : decode cX11_freeUnit 142 = .ok (.iinc 9 1, 3) := by decide +kernel
theorem dX11_freeUnit_145 : decode cX11_freeUnit 145 = .ok (.goto (-92), 3) := by decide +kernel
theorem dX11_freeUnit_148 : decode cX11_freeUnit 148 = .ok (.iload 8, 2) := by decide +kernel
theorem dX11_freeUnit_150 : decode cX11_freeUnit 150 = .ok (.ifCond .eq 6, 3) := by decide +kernel
theorem dX11_freeUnit_153 : decode cX11_freeUnit 153 = .ok (.iload 7, 2) := by decide +kernel
theorem dX11_freeUnit_155 : decode cX11_freeUnit 155 = .ok (.ireturn, 1) := by decide +kernel
theorem dX11_freeUnit_156 : decode cX11_freeUnit 156 = .ok (.iinc 7 1, 3) := by decide +kernel
theorem dX11_freeUnit_159 : decode cX11_freeUnit 159 = .ok (.goto (-131), 3) := by decide +kernel
theorem dX11_freeUnit_162 : decode cX11_freeUnit 162 = .ok (.iconst (-1), 1) := by decide +kernel
theorem dX11_freeUnit_163 : decode cX11_freeUnit 163 = .ok (.ireturn, 1) := by decide +kernel
theorem dX11_beginOne_0 : decode cX11_beginOne 0 = .ok (.iconst (-1), 1) := by decide +kernel
theorem dX11_beginOne_1 : decode cX11_beginOne 1 = .ok (.istore_n 3, 1) := by decide +kernel
theorem dX11_beginOne_2 : decode cX11_beginOne 2 = .ok (.iconst (-1), 1) := by decide +kernel
theorem dX11_beginOne_3 : decode cX11_beginOne 3 = .ok (.istore 4, 2) := by decide +kernel
theorem dX11_beginOne_5 : decode cX11_beginOne 5 = .ok (.aload_n 0, 1) := by decide +kernel
theorem dX11_beginOne_6 : decode cX11_beginOne 6 = .ok (.iload_n 1, 1) := by decide +kernel
theorem dX11_beginOne_7 : decode cX11_beginOne 7 = .ok (.invokevirtual 292, 3) := by decide +kernel
theorem dX11_beginOne_10 : decode cX11_beginOne 10 = .ok (.istore 5, 2) := by decide +kernel
theorem dX11_beginOne_12 : decode cX11_beginOne 12 = .ok (.aload_n 0, 1) := by decide +kernel
theorem dX11_beginOne_13 : decode cX11_beginOne 13 = .ok (.iload_n 1, 1) := by decide +kernel
theorem dX11_beginOne_14 : decode cX11_beginOne 14 = .ok (.invokevirtual 283, 3) := by decide +kernel
theorem dX11_beginOne_17 : decode cX11_beginOne 17 = .ok (.istore 6, 2) := by decide +kernel
theorem dX11_beginOne_19 : decode cX11_beginOne 19 = .ok (.iload 6, 2) := by decide +kernel
theorem dX11_beginOne_21 : decode cX11_beginOne 21 = .ok (.iload 5, 2) := by decide +kernel
theorem dX11_beginOne_23 : decode cX11_beginOne 23 = .ok (.if_icmp .ge 84, 3) := by decide +kernel
theorem dX11_beginOne_26 : decode cX11_beginOne 26 = .ok (.iload_n 3, 1) := by decide +kernel
theorem dX11_beginOne_27 : decode cX11_beginOne 27 = .ok (.ifCond .lt 19, 3) := by decide +kernel
theorem dX11_beginOne_30 : decode cX11_beginOne 30 = .ok (.aload_n 0, 1) := by decide +kernel
theorem dX11_beginOne_31 : decode cX11_beginOne 31 = .ok (.getfield 87, 3) := by decide +kernel
theorem dX11_beginOne_34 : decode cX11_beginOne 34 = .ok (.iload 6, 2) := by decide +kernel
theorem dX11_beginOne_36 : decode cX11_beginOne 36 = .ok (.iaload, 1) := by decide +kernel
theorem dX11_beginOne_37 : decode cX11_beginOne 37 = .ok (.aload_n 0, 1) := by decide +kernel
theorem dX11_beginOne_38 : decode cX11_beginOne 38 = .ok (.getfield 87, 3) := by decide +kernel
theorem dX11_beginOne_41 : decode cX11_beginOne 41 = .ok (.iload_n 3, 1) := by decide +kernel
theorem dX11_beginOne_42 : decode cX11_beginOne 42 = .ok (.iaload, 1) := by decide +kernel
theorem dX11_beginOne_43 : decode cX11_beginOne 43 = .ok (.if_icmp .le 7, 3) := by decide +kernel
theorem dX11_beginOne_46 : decode cX11_beginOne 46 = .ok (.iconst 1, 1) := by decide +kernel
theorem dX11_beginOne_47 : decode cX11_beginOne 47 = .ok (.goto 4, 3) := by decide +kernel
theorem dX11_beginOne_50 : decode cX11_beginOne 50 = .ok (.iconst 0, 1) := by decide +kernel
theorem dX11_beginOne_51 : decode cX11_beginOne 51 = .ok (.istore 7, 2) := by decide +kernel
theorem dX11_beginOne_53 : decode cX11_beginOne 53 = .ok (.aload_n 0, 1) := by decide +kernel
theorem dX11_beginOne_54 : decode cX11_beginOne 54 = .ok (.getfield 90, 3) := by decide +kernel
theorem dX11_beginOne_57 : decode cX11_beginOne 57 = .ok (.iload 6, 2) := by decide +kernel
theorem dX11_beginOne_59 : decode cX11_beginOne 59 = .ok (.iaload, 1) := by decide +kernel
theorem dX11_beginOne_60 : decode cX11_beginOne 60 = .ok (.ifCond .ge 41, 3) := by decide +kernel
theorem dX11_beginOne_63 : decode cX11_beginOne 63 = .ok (.iload 7, 2) := by decide +kernel
theorem dX11_beginOne_65 : decode cX11_beginOne 65 = .ok (.ifCond .eq 36, 3) := by decide +kernel
theorem dX11_beginOne_68 : decode cX11_beginOne 68 = .ok (.aload_n 0, 1) := by decide +kernel
theorem dX11_beginOne_69 : decode cX11_beginOne 69 = .ok (.iload 6, 2) := by decide +kernel
theorem dX11_beginOne_71 : decode cX11_beginOne 71 = .ok (.iload_n 1, 1) := by decide +kernel
theorem dX11_beginOne_72 : decode cX11_beginOne 72 = .ok (.iload_n 2, 1) := by decide +kernel
theorem dX11_beginOne_73 : decode cX11_beginOne 73 = .ok (.invokevirtual 295, 3) := by decide +kernel
theorem dX11_beginOne_76 : decode cX11_beginOne 76 = .ok (.ifCond .eq 25, 3) := by decide +kernel
theorem dX11_beginOne_79 : decode cX11_beginOne 79 = .ok (.aload_n 0, 1) := by decide +kernel
theorem dX11_beginOne_80 : decode cX11_beginOne 80 = .ok (.iload 6, 2) := by decide +kernel
theorem dX11_beginOne_82 : decode cX11_beginOne 82 = .ok (.iload_n 1, 1) := by decide +kernel
theorem dX11_beginOne_83 : decode cX11_beginOne 83 = .ok (.iload_n 2, 1) := by decide +kernel
theorem dX11_beginOne_84 : decode cX11_beginOne 84 = .ok (.invokevirtual 299, 3) := by decide +kernel
theorem dX11_beginOne_87 : decode cX11_beginOne 87 = .ok (.istore 8, 2) := by decide +kernel
theorem dX11_beginOne_89 : decode cX11_beginOne 89 = .ok (.iload 8, 2) := by decide +kernel
theorem dX11_beginOne_91 : decode cX11_beginOne 91 = .ok (.ifCond .lt 10, 3) := by decide +kernel
theorem dX11_beginOne_94 : decode cX11_beginOne 94 = .ok (.iload 6, 2) := by decide +kernel
theorem dX11_beginOne_96 : decode cX11_beginOne 96 = .ok (.istore_n 3, 1) := by decide +kernel
theorem dX11_beginOne_97 : decode cX11_beginOne 97 = .ok (.iload 8, 2) := by decide +kernel
theorem dX11_beginOne_99 : decode cX11_beginOne 99 = .ok (.istore 4, 2) := by decide +kernel
theorem dX11_beginOne_101 : decode cX11_beginOne 101 = .ok (.iinc 6 1, 3) := by decide +kernel
theorem dX11_beginOne_104 : decode cX11_beginOne 104 = .ok (.goto (-85), 3) := by decide +kernel
theorem dX11_beginOne_107 : decode cX11_beginOne 107 = .ok (.iload_n 3, 1) := by decide +kernel
theorem dX11_beginOne_108 : decode cX11_beginOne 108 = .ok (.ifCond .ge 5, 3) := by decide +kernel
theorem dX11_beginOne_111 : decode cX11_beginOne 111 = .ok (.iconst 0, 1) := by decide +kernel
theorem dX11_beginOne_112 : decode cX11_beginOne 112 = .ok (.ireturn, 1) := by decide +kernel
theorem dX11_beginOne_113 : decode cX11_beginOne 113 = .ok (.aload_n 0, 1) := by decide +kernel
theorem dX11_beginOne_114 : decode cX11_beginOne 114 = .ok (.getfield 90, 3) := by decide +kernel
theorem dX11_beginOne_117 : decode cX11_beginOne 117 = .ok (.iload_n 3, 1) := by decide +kernel
theorem dX11_beginOne_118 : decode cX11_beginOne 118 = .ok (.iload_n 2, 1) := by decide +kernel
theorem dX11_beginOne_119 : decode cX11_beginOne 119 = .ok (.iastore, 1) := by decide +kernel
theorem dX11_beginOne_120 : decode cX11_beginOne 120 = .ok (.aload_n 0, 1) := by decide +kernel
theorem dX11_beginOne_121 : decode cX11_beginOne 121 = .ok (.getfield 93, 3) := by decide +kernel
theorem dX11_beginOne_124 : decode cX11_beginOne 124 = .ok (.iload_n 3, 1) := by decide +kernel
theorem dX11_beginOne_125 : decode cX11_beginOne 125 = .ok (.iload 4, 2) := by decide +kernel
theorem dX11_beginOne_127 : decode cX11_beginOne 127 = .ok (.iastore, 1) := by decide +kernel
theorem dX11_beginOne_128 : decode cX11_beginOne 128 = .ok (.iconst 1, 1) := by decide +kernel
theorem dX11_beginOne_129 : decode cX11_beginOne 129 = .ok (.ireturn, 1) := by decide +kernel
theorem dX11_layBlock_0 : decode cX11_layBlock 0 = .ok (.aload_n 0, 1) := by decide +kernel
theorem dX11_layBlock_1 : decode cX11_layBlock 1 = .ok (.iload_n 1, 1) := by decide +kernel
theorem dX11_layBlock_2 : decode cX11_layBlock 2 = .ok (.invokevirtual 283, 3) := by decide +kernel
theorem dX11_layBlock_5 : decode cX11_layBlock 5 = .ok (.istore_n 2, 1) := by decide +kernel
theorem dX11_layBlock_6 : decode cX11_layBlock 6 = .ok (.aload_n 0, 1) := by decide +kernel
theorem dX11_layBlock_7 : decode cX11_layBlock 7 = .ok (.iload_n 1, 1) := by decide +kernel
theorem dX11_layBlock_8 : decode cX11_layBlock 8 = .ok (.invokevirtual 292, 3) := by decide +kernel
theorem dX11_layBlock_11 : decode cX11_layBlock 11 = .ok (.istore_n 3, 1) := by decide +kernel
theorem dX11_layBlock_12 : decode cX11_layBlock 12 = .ok (.iload_n 3, 1) := by decide +kernel
theorem dX11_layBlock_13 : decode cX11_layBlock 13 = .ok (.iconst 1, 1) := by decide +kernel
theorem dX11_layBlock_14 : decode cX11_layBlock 14 = .ok (.isub, 1) := by decide +kernel
theorem dX11_layBlock_15 : decode cX11_layBlock 15 = .ok (.istore 4, 2) := by decide +kernel
theorem dX11_layBlock_17 : decode cX11_layBlock 17 = .ok (.iload 4, 2) := by decide +kernel
theorem dX11_layBlock_19 : decode cX11_layBlock 19 = .ok (.iload_n 2, 1) := by decide +kernel
theorem dX11_layBlock_20 : decode cX11_layBlock 20 = .ok (.if_icmp .lt 95, 3) := by decide +kernel
theorem dX11_layBlock_23 : decode cX11_layBlock 23 = .ok (.iload_n 2, 1) := by decide +kernel
theorem dX11_layBlock_24 : decode cX11_layBlock 24 = .ok (.ifCond .lt 91, 3) := by decide +kernel
theorem dX11_layBlock_27 : decode cX11_layBlock 27 = .ok (.iconst 0, 1) := by decide +kernel
theorem dX11_layBlock_28 : decode cX11_layBlock 28 = .ok (.istore 5, 2) := by decide +kernel
theorem dX11_layBlock_30 : decode cX11_layBlock 30 = .ok (.iload 4, 2) := by decide +kernel
theorem dX11_layBlock_32 : decode cX11_layBlock 32 = .ok (.iconst 1, 1) := by decide +kernel
theorem dX11_layBlock_33 : decode cX11_layBlock 33 = .ok (.iadd, 1) := by decide +kernel
theorem dX11_layBlock_34 : decode cX11_layBlock 34 = .ok (.istore 6, 2) := by decide +kernel
theorem dX11_layBlock_36 : decode cX11_layBlock 36 = .ok (.iload 6, 2) := by decide +kernel
theorem dX11_layBlock_38 : decode cX11_layBlock 38 = .ok (.iload_n 3, 1) := by decide +kernel
theorem dX11_layBlock_39 : decode cX11_layBlock 39 = .ok (.if_icmp .ge 46, 3) := by decide +kernel
theorem dX11_layBlock_42 : decode cX11_layBlock 42 = .ok (.aload_n 0, 1) := by decide +kernel
theorem dX11_layBlock_43 : decode cX11_layBlock 43 = .ok (.iload 6, 2) := by decide +kernel
theorem dX11_layBlock_45 : decode cX11_layBlock 45 = .ok (.iload 4, 2) := by decide +kernel
theorem dX11_layBlock_47 : decode cX11_layBlock 47 = .ok (.invokevirtual 286, 3) := by decide +kernel
theorem dX11_layBlock_50 : decode cX11_layBlock 50 = .ok (.ifCond .eq 25, 3) := by decide +kernel
theorem dX11_layBlock_53 : decode cX11_layBlock 53 = .ok (.aload_n 0, 1) := by decide +kernel
theorem dX11_layBlock_54 : decode cX11_layBlock 54 = .ok (.getfield 87, 3) := by decide +kernel
theorem dX11_layBlock_57 : decode cX11_layBlock 57 = .ok (.iload 6, 2) := by decide +kernel
theorem dX11_layBlock_59 : decode cX11_layBlock 59 = .ok (.iaload, 1) := by decide +kernel
theorem dX11_layBlock_60 : decode cX11_layBlock 60 = .ok (.iload 5, 2) := by decide +kernel
theorem dX11_layBlock_62 : decode cX11_layBlock 62 = .ok (.if_icmp .le 13, 3) := by decide +kernel
theorem dX11_layBlock_65 : decode cX11_layBlock 65 = .ok (.aload_n 0, 1) := by decide +kernel
theorem dX11_layBlock_66 : decode cX11_layBlock 66 = .ok (.getfield 87, 3) := by decide +kernel
theorem dX11_layBlock_69 : decode cX11_layBlock 69 = .ok (.iload 6, 2) := by decide +kernel
theorem dX11_layBlock_71 : decode cX11_layBlock 71 = .ok (.iaload, 1) := by decide +kernel
theorem dX11_layBlock_72 : decode cX11_layBlock 72 = .ok (.goto 5, 3) := by decide +kernel
theorem dX11_layBlock_75 : decode cX11_layBlock 75 = .ok (.iload 5, 2) := by decide +kernel
theorem dX11_layBlock_77 : decode cX11_layBlock 77 = .ok (.istore 5, 2) := by decide +kernel
theorem dX11_layBlock_79 : decode cX11_layBlock 79 = .ok (.iinc 6 1, 3) := by decide +kernel
theorem dX11_layBlock_82 : decode cX11_layBlock 82 = .ok (.goto (-46), 3) := by decide +kernel
theorem dX11_layBlock_85 : decode cX11_layBlock 85 = .ok (.aload_n 0, 1) := by decide +kernel
theorem dX11_layBlock_86 : decode cX11_layBlock 86 = .ok (.getfield 87, 3) := by decide +kernel
theorem dX11_layBlock_89 : decode cX11_layBlock 89 = .ok (.iload 4, 2) := by decide +kernel
theorem dX11_layBlock_91 : decode cX11_layBlock 91 = .ok (.aload_n 0, 1) := by decide +kernel
theorem dX11_layBlock_92 : decode cX11_layBlock 92 = .ok (.iload 4, 2) := by decide +kernel
theorem dX11_layBlock_94 : decode cX11_layBlock 94 = .ok (.invokevirtual 280, 3) := by decide +kernel
theorem dX11_layBlock_97 : decode cX11_layBlock 97 = .ok (.iload 5, 2) := by decide +kernel
theorem dX11_layBlock_99 : decode cX11_layBlock 99 = .ok (.iadd, 1) := by decide +kernel
theorem dX11_layBlock_100 : decode cX11_layBlock 100 = .ok (.iastore, 1) := by decide +kernel
theorem dX11_layBlock_101 : decode cX11_layBlock 101 = .ok (.aload_n 0, 1) := by decide +kernel
theorem dX11_layBlock_102 : decode cX11_layBlock 102 = .ok (.getfield 90, 3) := by decide +kernel
theorem dX11_layBlock_105 : decode cX11_layBlock 105 = .ok (.iload 4, 2) := by decide +kernel
theorem dX11_layBlock_107 : decode cX11_layBlock 107 = .ok (.iconst (-1), 1) := by decide +kernel
theorem dX11_layBlock_108 : decode cX11_layBlock 108 = .ok (.iastore, 1) := by decide +kernel
theorem dX11_layBlock_109 : decode cX11_layBlock 109 = .ok (.iinc 4 (-1), 3) := by decide +kernel
theorem dX11_layBlock_112 : decode cX11_layBlock 112 = .ok (.goto (-95), 3) := by decide +kernel
theorem dX11_layBlock_115 : decode cX11_layBlock 115 = .ok (.iload_n 2, 1) := by decide +kernel
theorem dX11_layBlock_116 : decode cX11_layBlock 116 = .ok (.ifCond .ge 7, 3) := by decide +kernel
theorem dX11_layBlock_119 : decode cX11_layBlock 119 = .ok (.iconst 0, 1) := by decide +kernel
theorem dX11_layBlock_120 : decode cX11_layBlock 120 = .ok (.goto 6, 3) := by decide +kernel
theorem dX11_layBlock_123 : decode cX11_layBlock 123 = .ok (.iload_n 3, 1) := by decide +kernel
theorem dX11_layBlock_124 : decode cX11_layBlock 124 = .ok (.iload_n 2, 1) := by decide +kernel
theorem dX11_layBlock_125 : decode cX11_layBlock 125 = .ok (.isub, 1) := by decide +kernel
theorem dX11_layBlock_126 : decode cX11_layBlock 126 = .ok (.istore 4, 2) := by decide +kernel
theorem dX11_layBlock_128 : decode cX11_layBlock 128 = .ok (.iconst 0, 1) := by decide +kernel
theorem dX11_layBlock_129 : decode cX11_layBlock 129 = .ok (.istore 5, 2) := by decide +kernel
theorem dX11_layBlock_131 : decode cX11_layBlock 131 = .ok (.iload 4, 2) := by decide +kernel
theorem dX11_layBlock_133 : decode cX11_layBlock 133 = .ok (.ifCond .le 25, 3) := by decide +kernel
theorem dX11_layBlock_136 : decode cX11_layBlock 136 = .ok (.aload_n 0, 1) := by decide +kernel
theorem dX11_layBlock_137 : decode cX11_layBlock 137 = .ok (.iload_n 1, 1) := by decide +kernel
theorem dX11_layBlock_138 : decode cX11_layBlock 138 = .ok (.iload 5, 2) := by decide +kernel
theorem dX11_layBlock_140 : decode cX11_layBlock 140 = .ok (.invokevirtual 303, 3) := by decide +kernel
theorem dX11_layBlock_143 : decode cX11_layBlock 143 = .ok (.ifCond .eq 9, 3) := by decide +kernel
theorem dX11_layBlock_146 : decode cX11_layBlock 146 = .ok (.iinc 4 (-1), 3) := by decide +kernel
theorem dX11_layBlock_149 : decode cX11_layBlock 149 = .ok (.goto (-13), 3) := by decide +kernel
theorem dX11_layBlock_152 : decode cX11_layBlock 152 = .ok (.iinc 5 1, 3) := by decide +kernel
theorem dX11_layBlock_155 : decode cX11_layBlock 155 = .ok (.goto (-24), 3) := by decide +kernel
theorem dX11_layBlock_158 : decode cX11_layBlock 158 = .ok (.aload_n 0, 1) := by decide +kernel
theorem dX11_layBlock_159 : decode cX11_layBlock 159 = .ok (.getfield 99, 3) := by decide +kernel
theorem dX11_layBlock_162 : decode cX11_layBlock 162 = .ok (.iload_n 1, 1) := by decide +kernel
theorem dX11_layBlock_163 : decode cX11_layBlock 163 = .ok (.iconst 1, 1) := by decide +kernel
theorem dX11_layBlock_164 : decode cX11_layBlock 164 = .ok (.iastore, 1) := by decide +kernel
theorem dX11_layBlock_165 : decode cX11_layBlock 165 = .ok (.iload_n 2, 1) := by decide +kernel
theorem dX11_layBlock_166 : decode cX11_layBlock 166 = .ok (.istore 5, 2) := by decide +kernel
theorem dX11_layBlock_168 : decode cX11_layBlock 168 = .ok (.iload 5, 2) := by decide +kernel
theorem dX11_layBlock_170 : decode cX11_layBlock 170 = .ok (.iload_n 3, 1) := by decide +kernel
theorem dX11_layBlock_171 : decode cX11_layBlock 171 = .ok (.if_icmp .ge 49, 3) := by decide +kernel
theorem dX11_layBlock_174 : decode cX11_layBlock 174 = .ok (.iload_n 2, 1) := by decide +kernel
theorem dX11_layBlock_175 : decode cX11_layBlock 175 = .ok (.ifCond .lt 45, 3) := by decide +kernel
theorem dX11_layBlock_178 : decode cX11_layBlock 178 = .ok (.aload_n 0, 1) := by decide +kernel
theorem dX11_layBlock_179 : decode cX11_layBlock 179 = .ok (.getfield 99, 3) := by decide +kernel
theorem dX11_layBlock_182 : decode cX11_layBlock 182 = .ok (.iload_n 1, 1) := by decide +kernel
theorem dX11_layBlock_183 : decode cX11_layBlock 183 = .ok (.aload_n 0, 1) := by decide +kernel
theorem dX11_layBlock_184 : decode cX11_layBlock 184 = .ok (.iload 5, 2) := by decide +kernel
theorem dX11_layBlock_186 : decode cX11_layBlock 186 = .ok (.invokevirtual 289, 3) := by decide +kernel
theorem dX11_layBlock_189 : decode cX11_layBlock 189 = .ok (.aload_n 0, 1) := by decide +kernel
theorem dX11_layBlock_190 : decode cX11_layBlock 190 = .ok (.getfield 99, 3) := by decide +kernel
theorem dX11_layBlock_193 : decode cX11_layBlock 193 = .ok (.iload_n 1, 1) := by decide +kernel
theorem dX11_layBlock_194 : decode cX11_layBlock 194 = .ok (.iaload, 1) := by decide +kernel
theorem dX11_layBlock_195 : decode cX11_layBlock 195 = .ok (.if_icmp .le 12, 3) := by decide +kernel
theorem dX11_layBlock_198 : decode cX11_layBlock 198 = .ok (.aload_n 0, 1) := by decide +kernel
theorem dX11_layBlock_199 : decode cX11_layBlock 199 = .ok (.iload 5, 2) := by decide +kernel
theorem dX11_layBlock_201 : decode cX11_layBlock 201 = .ok (.invokevirtual 289, 3) := by decide +kernel
theorem dX11_layBlock_204 : decode cX11_layBlock 204 = .ok (.goto 9, 3) := by decide +kernel
theorem dX11_layBlock_207 : decode cX11_layBlock 207 = .ok (.aload_n 0, 1) := by decide +kernel
theorem dX11_layBlock_208 : decode cX11_layBlock 208 = .ok (.getfield 99, 3) := by decide +kernel
theorem dX11_layBlock_211 : decode cX11_layBlock 211 = .ok (.iload_n 1, 1) := by decide +kernel
theorem dX11_layBlock_212 : decode cX11_layBlock 212 = .ok (.iaload, 1) := by decide +kernel
theorem dX11_layBlock_213 : decode cX11_layBlock 213 = .ok (.iastore, 1) := by decide +kernel
theorem dX11_layBlock_214 : decode cX11_layBlock 214 = .ok (.iinc 5 1, 3) := by decide +kernel
theorem dX11_layBlock_217 : decode cX11_layBlock 217 = .ok (.goto (-49), 3) := by decide +kernel
theorem dX11_layBlock_220 : decode cX11_layBlock 220 = .ok (.return_, 1) := by decide +kernel
theorem dX11_isEnd_0 : decode cX11_isEnd 0 = .ok (.aload_n 0, 1) := by decide +kernel
theorem dX11_isEnd_1 : decode cX11_isEnd 1 = .ok (.getfield 78, 3) := by decide +kernel
theorem dX11_isEnd_4 : decode cX11_isEnd 4 = .ok (.iload_n 2, 1) := by decide +kernel
theorem dX11_isEnd_5 : decode cX11_isEnd 5 = .ok (.baload, 1) := by decide +kernel
theorem dX11_isEnd_6 : decode cX11_isEnd 6 = .ok (.ifCond .eq 27, 3) := by decide +kernel
theorem dX11_isEnd_9 : decode cX11_isEnd 9 = .ok (.aload_n 0, 1) := by decide +kernel
theorem dX11_isEnd_10 : decode cX11_isEnd 10 = .ok (.getfield 66, 3) := by decide +kernel
theorem dX11_isEnd_13 : decode cX11_isEnd 13 = .ok (.iload_n 2, 1) := by decide +kernel
theorem dX11_isEnd_14 : decode cX11_isEnd 14 = .ok (.iaload, 1) := by decide +kernel
theorem dX11_isEnd_15 : decode cX11_isEnd 15 = .ok (.iconst 3, 1) := by decide +kernel
theorem dX11_isEnd_16 : decode cX11_isEnd 16 = .ok (.if_icmp .ne 17, 3) := by decide +kernel
theorem dX11_isEnd_19 : decode cX11_isEnd 19 = .ok (.aload_n 0, 1) := by decide +kernel
theorem dX11_isEnd_20 : decode cX11_isEnd 20 = .ok (.getfield 69, 3) := by decide +kernel
theorem dX11_isEnd_23 : decode cX11_isEnd 23 = .ok (.iload_n 2, 1) := by decide +kernel
theorem dX11_isEnd_24 : decode cX11_isEnd 24 = .ok (.iaload, 1) := by decide +kernel
theorem dX11_isEnd_25 : decode cX11_isEnd 25 = .ok (.iload_n 1, 1) := by decide +kernel
theorem dX11_isEnd_26 : decode cX11_isEnd 26 = .ok (.if_icmp .ne 7, 3) := by decide +kernel
theorem dX11_isEnd_29 : decode cX11_isEnd 29 = .ok (.iconst 1, 1) := by decide +kernel
theorem dX11_isEnd_30 : decode cX11_isEnd 30 = .ok (.goto 4, 3) := by decide +kernel
theorem dX11_isEnd_33 : decode cX11_isEnd 33 = .ok (.iconst 0, 1) := by decide +kernel
theorem dX11_isEnd_34 : decode cX11_isEnd 34 = .ok (.ireturn, 1) := by decide +kernel
theorem dX11_heldTo_0 : decode cX11_heldTo 0 = .ok (.aload_n 0, 1) := by decide +kernel
theorem dX11_heldTo_1 : decode cX11_heldTo 1 = .ok (.getfield 63, 3) := by decide +kernel
theorem dX11_heldTo_4 : decode cX11_heldTo 4 = .ok (.iload_n 1, 1) := by decide +kernel
theorem dX11_heldTo_5 : decode cX11_heldTo 5 = .ok (.iaload, 1) := by decide +kernel
theorem dX11_heldTo_6 : decode cX11_heldTo 6 = .ok (.istore_n 2, 1) := by decide +kernel
theorem dX11_heldTo_7 : decode cX11_heldTo 7 = .ok (.aload_n 0, 1) := by decide +kernel
theorem dX11_heldTo_8 : decode cX11_heldTo 8 = .ok (.iload_n 1, 1) := by decide +kernel
theorem dX11_heldTo_9 : decode cX11_heldTo 9 = .ok (.iload_n 2, 1) := by decide +kernel
theorem dX11_heldTo_10 : decode cX11_heldTo 10 = .ok (.invokevirtual 306, 3) := by decide +kernel
theorem dX11_heldTo_13 : decode cX11_heldTo 13 = .ok (.ifCond .eq 14, 3) := by decide +kernel
theorem dX11_heldTo_16 : decode cX11_heldTo 16 = .ok (.aload_n 0, 1) := by decide +kernel
theorem dX11_heldTo_17 : decode cX11_heldTo 17 = .ok (.getfield 99, 3) := by decide +kernel
theorem dX11_heldTo_20 : decode cX11_heldTo 20 = .ok (.iload_n 2, 1) := by decide +kernel
theorem dX11_heldTo_21 : decode cX11_heldTo 21 = .ok (.iaload, 1) := by decide +kernel
theorem dX11_heldTo_22 : decode cX11_heldTo 22 = .ok (.iconst 1, 1) := by decide +kernel
theorem dX11_heldTo_23 : decode cX11_heldTo 23 = .ok (.isub, 1) := by decide +kernel
theorem dX11_heldTo_24 : decode cX11_heldTo 24 = .ok (.goto 5, 3) := by decide +kernel
theorem dX11_heldTo_27 : decode cX11_heldTo 27 = .ok (.bipush (-2), 2) := by decide +kernel
theorem dX11_heldTo_29 : decode cX11_heldTo 29 = .ok (.istore_n 3, 1) := by decide +kernel
theorem dX11_heldTo_30 : decode cX11_heldTo 30 = .ok (.aload_n 0, 1) := by decide +kernel
theorem dX11_heldTo_31 : decode cX11_heldTo 31 = .ok (.iload_n 2, 1) := by decide +kernel
theorem dX11_heldTo_32 : decode cX11_heldTo 32 = .ok (.invokevirtual 292, 3) := by decide +kernel
theorem dX11_heldTo_35 : decode cX11_heldTo 35 = .ok (.istore 4, 2) := by decide +kernel
theorem dX11_heldTo_37 : decode cX11_heldTo 37 = .ok (.iload_n 1, 1) := by decide +kernel
theorem dX11_heldTo_38 : decode cX11_heldTo 38 = .ok (.iconst 1, 1) := by decide +kernel
theorem dX11_heldTo_39 : decode cX11_heldTo 39 = .ok (.iadd, 1) := by decide +kernel
theorem dX11_heldTo_40 : decode cX11_heldTo 40 = .ok (.istore 5, 2) := by decide +kernel
theorem dX11_heldTo_42 : decode cX11_heldTo 42 = .ok (.iload 5, 2) := by decide +kernel
theorem dX11_heldTo_44 : decode cX11_heldTo 44 = .ok (.iload 4, 2) := by decide +kernel
theorem dX11_heldTo_46 : decode cX11_heldTo 46 = .ok (.if_icmp .ge 42, 3) := by decide +kernel
theorem dX11_heldTo_49 : decode cX11_heldTo 49 = .ok (.aload_n 0, 1) := by decide +kernel
theorem dX11_heldTo_50 : decode cX11_heldTo 50 = .ok (.iload 5, 2) := by decide +kernel
theorem dX11_heldTo_52 : decode cX11_heldTo 52 = .ok (.iload_n 1, 1) := by decide +kernel
theorem dX11_heldTo_53 : decode cX11_heldTo 53 = .ok (.invokevirtual 270, 3) := by decide +kernel
theorem dX11_heldTo_56 : decode cX11_heldTo 56 = .ok (.ifCond .eq 24, 3) := by decide +kernel
theorem dX11_heldTo_59 : decode cX11_heldTo 59 = .ok (.aload_n 0, 1) := by decide +kernel
theorem dX11_heldTo_60 : decode cX11_heldTo 60 = .ok (.getfield 90, 3) := by decide +kernel
theorem dX11_heldTo_63 : decode cX11_heldTo 63 = .ok (.iload 5, 2) := by decide +kernel
theorem dX11_heldTo_65 : decode cX11_heldTo 65 = .ok (.iaload, 1) := by decide +kernel
theorem dX11_heldTo_66 : decode cX11_heldTo 66 = .ok (.iload_n 3, 1) := by decide +kernel
theorem dX11_heldTo_67 : decode cX11_heldTo 67 = .ok (.if_icmp .le 13, 3) := by decide +kernel
theorem dX11_heldTo_70 : decode cX11_heldTo 70 = .ok (.aload_n 0, 1) := by decide +kernel
theorem dX11_heldTo_71 : decode cX11_heldTo 71 = .ok (.getfield 90, 3) := by decide +kernel
theorem dX11_heldTo_74 : decode cX11_heldTo 74 = .ok (.iload 5, 2) := by decide +kernel
theorem dX11_heldTo_76 : decode cX11_heldTo 76 = .ok (.iaload, 1) := by decide +kernel
theorem dX11_heldTo_77 : decode cX11_heldTo 77 = .ok (.goto 4, 3) := by decide +kernel
theorem dX11_heldTo_80 : decode cX11_heldTo 80 = .ok (.iload_n 3, 1) := by decide +kernel
theorem dX11_heldTo_81 : decode cX11_heldTo 81 = .ok (.istore_n 3, 1) := by decide +kernel
theorem dX11_heldTo_82 : decode cX11_heldTo 82 = .ok (.iinc 5 1, 3) := by decide +kernel
theorem dX11_heldTo_85 : decode cX11_heldTo 85 = .ok (.goto (-43), 3) := by decide +kernel
theorem dX11_heldTo_88 : decode cX11_heldTo 88 = .ok (.iload_n 3, 1) := by decide +kernel
theorem dX11_heldTo_89 : decode cX11_heldTo 89 = .ok (.ireturn, 1) := by decide +kernel
theorem dX11_holds_0 : decode cX11_holds 0 = .ok (.aload_n 0, 1) := by decide +kernel
theorem dX11_holds_1 : decode cX11_holds 1 = .ok (.getfield 60, 3) := by decide +kernel
theorem dX11_holds_4 : decode cX11_holds 4 = .ok (.iload_n 1, 1) := by decide +kernel
theorem dX11_holds_5 : decode cX11_holds 5 = .ok (.iaload, 1) := by decide +kernel
theorem dX11_holds_6 : decode cX11_holds 6 = .ok (.ifCond .ge 18, 3) := by decide +kernel
theorem dX11_holds_9 : decode cX11_holds 9 = .ok (.aload_n 0, 1) := by decide +kernel
theorem dX11_holds_10 : decode cX11_holds 10 = .ok (.getfield 111, 3) := by decide +kernel
theorem dX11_holds_13 : decode cX11_holds 13 = .ok (.iload_n 1, 1) := by decide +kernel
theorem dX11_holds_14 : decode cX11_holds 14 = .ok (.iaload, 1) := by decide +kernel
theorem dX11_holds_15 : decode cX11_holds 15 = .ok (.bipush (-2), 2) := by decide +kernel
theorem dX11_holds_17 : decode cX11_holds 17 = .ok (.if_icmp .le 7, 3) := by decide +kernel
theorem dX11_holds_20 : decode cX11_holds 20 = .ok (.iconst 1, 1) := by decide +kernel
theorem dX11_holds_21 : decode cX11_holds 21 = .ok (.goto 4, 3) := by decide +kernel
theorem dX11_holds_24 : decode cX11_holds 24 = .ok (.iconst 0, 1) := by decide +kernel
theorem dX11_holds_25 : decode cX11_holds 25 = .ok (.ireturn, 1) := by decide +kernel
theorem dX11_meet_0 : decode cX11_meet 0 = .ok (.aload_n 0, 1) := by decide +kernel
theorem dX11_meet_1 : decode cX11_meet 1 = .ok (.iload_n 1, 1) := by decide +kernel
theorem dX11_meet_2 : decode cX11_meet 2 = .ok (.invokevirtual 289, 3) := by decide +kernel
theorem dX11_meet_5 : decode cX11_meet 5 = .ok (.aload_n 0, 1) := by decide +kernel
theorem dX11_meet_6 : decode cX11_meet 6 = .ok (.getfield 111, 3) := by decide +kernel
theorem dX11_meet_9 : decode cX11_meet 9 = .ok (.iload_n 2, 1) := by decide +kernel
theorem dX11_meet_10 : decode cX11_meet 10 = .ok (.iaload, 1) := by decide +kernel
theorem dX11_meet_11 : decode cX11_meet 11 = .ok (.if_icmp .gt 21, 3) := by decide +kernel
theorem dX11_meet_14 : decode cX11_meet 14 = .ok (.aload_n 0, 1) := by decide +kernel
theorem dX11_meet_15 : decode cX11_meet 15 = .ok (.iload_n 2, 1) := by decide +kernel
theorem dX11_meet_16 : decode cX11_meet 16 = .ok (.invokevirtual 289, 3) := by decide +kernel
theorem dX11_meet_19 : decode cX11_meet 19 = .ok (.aload_n 0, 1) := by decide +kernel
theorem dX11_meet_20 : decode cX11_meet 20 = .ok (.getfield 111, 3) := by decide +kernel
theorem dX11_meet_23 : decode cX11_meet 23 = .ok (.iload_n 1, 1) := by decide +kernel
theorem dX11_meet_24 : decode cX11_meet 24 = .ok (.iaload, 1) := by decide +kernel
theorem dX11_meet_25 : decode cX11_meet 25 = .ok (.if_icmp .gt 7, 3) := by decide +kernel
theorem dX11_meet_28 : decode cX11_meet 28 = .ok (.iconst 1, 1) := by decide +kernel
theorem dX11_meet_29 : decode cX11_meet 29 = .ok (.goto 4, 3) := by decide +kernel
theorem dX11_meet_32 : decode cX11_meet 32 = .ok (.iconst 0, 1) := by decide +kernel
theorem dX11_meet_33 : decode cX11_meet 33 = .ok (.ireturn, 1) := by decide +kernel
theorem dX11_isBefore_0 : decode cX11_isBefore 0 = .ok (.aload_n 0, 1) := by decide +kernel
theorem dX11_isBefore_1 : decode cX11_isBefore 1 = .ok (.iload_n 1, 1) := by decide +kernel
theorem dX11_isBefore_2 : decode cX11_isBefore 2 = .ok (.invokevirtual 289, 3) := by decide +kernel
theorem dX11_isBefore_5 : decode cX11_isBefore 5 = .ok (.aload_n 0, 1) := by decide +kernel
theorem dX11_isBefore_6 : decode cX11_isBefore 6 = .ok (.iload_n 2, 1) := by decide +kernel
theorem dX11_isBefore_7 : decode cX11_isBefore 7 = .ok (.invokevirtual 289, 3) := by decide +kernel
theorem dX11_isBefore_10 : decode cX11_isBefore 10 = .ok (.if_icmp .lt 21, 3) := by decide +kernel
theorem dX11_isBefore_13 : decode cX11_isBefore 13 = .ok (.aload_n 0, 1) := by decide +kernel
theorem dX11_isBefore_14 : decode cX11_isBefore 14 = .ok (.iload_n 1, 1) := by decide +kernel
theorem dX11_isBefore_15 : decode cX11_isBefore 15 = .ok (.invokevirtual 289, 3) := by decide +kernel
theorem dX11_isBefore_18 : decode cX11_isBefore 18 = .ok (.aload_n 0, 1) := by decide +kernel
theorem dX11_isBefore_19 : decode cX11_isBefore 19 = .ok (.iload_n 2, 1) := by decide +kernel
theorem dX11_isBefore_20 : decode cX11_isBefore 20 = .ok (.invokevirtual 289, 3) := by decide +kernel
theorem dX11_isBefore_23 : decode cX11_isBefore 23 = .ok (.if_icmp .ne 12, 3) := by decide +kernel
theorem dX11_isBefore_26 : decode cX11_isBefore 26 = .ok (.iload_n 1, 1) := by decide +kernel
theorem dX11_isBefore_27 : decode cX11_isBefore 27 = .ok (.iload_n 2, 1) := by decide +kernel
theorem dX11_isBefore_28 : decode cX11_isBefore 28 = .ok (.if_icmp .ge 7, 3) := by decide +kernel
theorem dX11_isBefore_31 : decode cX11_isBefore 31 = .ok (.iconst 1, 1) := by decide +kernel
theorem dX11_isBefore_32 : decode cX11_isBefore 32 = .ok (.goto 4, 3) := by decide +kernel
theorem dX11_isBefore_35 : decode cX11_isBefore 35 = .ok (.iconst 0, 1) := by decide +kernel
theorem dX11_isBefore_36 : decode cX11_isBefore 36 = .ok (.ireturn, 1) := by decide +kernel
theorem dX11_bindOne_0 : decode cX11_bindOne 0 = .ok (.iconst (-1), 1) := by decide +kernel
theorem dX11_bindOne_1 : decode cX11_bindOne 1 = .ok (.istore_n 2, 1) := by decide +kernel
theorem dX11_bindOne_2 : decode cX11_bindOne 2 = .ok (.iconst 1, 1) := by decide +kernel
theorem dX11_bindOne_3 : decode cX11_bindOne 3 = .ok (.istore_n 3, 1) := by decide +kernel
theorem dX11_bindOne_4 : decode cX11_bindOne 4 = .ok (.aload_n 0, 1) := by decide +kernel
theorem dX11_bindOne_5 : decode cX11_bindOne 5 = .ok (.iload_n 1, 1) := by decide +kernel
theorem dX11_bindOne_6 : decode cX11_bindOne 6 = .ok (.invokevirtual 289, 3) := by decide +kernel
theorem dX11_bindOne_9 : decode cX11_bindOne 9 = .ok (.aload_n 0, 1) := by decide +kernel
theorem dX11_bindOne_10 : decode cX11_bindOne 10 = .ok (.getfield 111, 3) := by decide +kernel
theorem dX11_bindOne_13 : decode cX11_bindOne 13 = .ok (.iload_n 1, 1) := by decide +kernel
theorem dX11_bindOne_14 : decode cX11_bindOne 14 = .ok (.iaload, 1) := by decide +kernel
theorem dX11_bindOne_15 : decode cX11_bindOne 15 = .ok (.if_icmp .le 7, 3) := by decide +kernel
theorem dX11_bindOne_18 : decode cX11_bindOne 18 = .ok (.iconst 1, 1) := by decide +kernel
theorem dX11_bindOne_19 : decode cX11_bindOne 19 = .ok (.goto 4, 3) := by decide +kernel
theorem dX11_bindOne_22 : decode cX11_bindOne 22 = .ok (.iconst 0, 1) := by decide +kernel
theorem dX11_bindOne_23 : decode cX11_bindOne 23 = .ok (.istore 4, 2) := by decide +kernel
theorem dX11_bindOne_25 : decode cX11_bindOne 25 = .ok (.iload_n 3, 1) := by decide +kernel
theorem dX11_bindOne_26 : decode cX11_bindOne 26 = .ok (.ifCond .eq 87, 3) := by decide +kernel
theorem dX11_bindOne_29 : decode cX11_bindOne 29 = .ok (.iinc 2 1, 3) := by decide +kernel
theorem dX11_bindOne_32 : decode cX11_bindOne 32 = .ok (.iconst 0, 1) := by decide +kernel
theorem dX11_bindOne_33 : decode cX11_bindOne 33 = .ok (.istore_n 3, 1) := by decide +kernel
theorem dX11_bindOne_34 : decode cX11_bindOne 34 = .ok (.iconst 0, 1) := by decide +kernel
theorem dX11_bindOne_35 : decode cX11_bindOne 35 = .ok (.istore 5, 2) := by decide +kernel
theorem dX11_bindOne_37 : decode cX11_bindOne 37 = .ok (.iload 5, 2) := by decide +kernel
theorem dX11_bindOne_39 : decode cX11_bindOne 39 = .ok (.aload_n 0, 1) := by decide +kernel
theorem dX11_bindOne_40 : decode cX11_bindOne 40 = .ok (.getfield 261, 3) := by decide +kernel
theorem dX11_bindOne_43 : decode cX11_bindOne 43 = .ok (.if_icmp .ge 67, 3) := by decide +kernel
theorem dX11_bindOne_46 : decode cX11_bindOne 46 = .ok (.iload_n 3, 1) := by decide +kernel
theorem dX11_bindOne_47 : decode cX11_bindOne 47 = .ok (.ifCond .ne 51, 3) := by decide +kernel
theorem dX11_bindOne_50 : decode cX11_bindOne 50 = .ok (.iload 5, 2) := by decide +kernel
theorem dX11_bindOne_52 : decode cX11_bindOne 52 = .ok (.iload_n 1, 1) := by decide +kernel
theorem dX11_bindOne_53 : decode cX11_bindOne 53 = .ok (.if_icmp .eq 49, 3) := by decide +kernel
theorem dX11_bindOne_56 : decode cX11_bindOne 56 = .ok (.iload 4, 2) := by decide +kernel
theorem dX11_bindOne_58 : decode cX11_bindOne 58 = .ok (.ifCond .ne 44, 3) := by decide +kernel
theorem dX11_bindOne_61 : decode cX11_bindOne 61 = .ok (.aload_n 0, 1) := by decide +kernel
theorem dX11_bindOne_62 : decode cX11_bindOne 62 = .ok (.getfield 63, 3) := by decide +kernel
theorem dX11_bindOne_65 : decode cX11_bindOne 65 = .ok (.iload 5, 2) := by decide +kernel
theorem dX11_bindOne_67 : decode cX11_bindOne 67 = .ok (.iaload, 1) := by decide +kernel
theorem dX11_bindOne_68 : decode cX11_bindOne 68 = .ok (.aload_n 0, 1) := by decide +kernel
theorem dX11_bindOne_69 : decode cX11_bindOne 69 = .ok (.getfield 63, 3) := by decide +kernel
theorem dX11_bindOne_72 : decode cX11_bindOne 72 = .ok (.iload_n 1, 1) := by decide +kernel
theorem dX11_bindOne_73 : decode cX11_bindOne 73 = .ok (.iaload, 1) := by decide +kernel
theorem dX11_bindOne_74 : decode cX11_bindOne 74 = .ok (.if_icmp .ne 28, 3) := by decide +kernel
theorem dX11_bindOne_77 : decode cX11_bindOne 77 = .ok (.aload_n 0, 1) := by decide +kernel
theorem dX11_bindOne_78 : decode cX11_bindOne 78 = .ok (.getfield 96, 3) := by decide +kernel
theorem dX11_bindOne_81 : decode cX11_bindOne 81 = .ok (.iload 5, 2) := by decide +kernel
theorem dX11_bindOne_83 : decode cX11_bindOne 83 = .ok (.iaload, 1) := by decide +kernel
theorem dX11_bindOne_84 : decode cX11_bindOne 84 = .ok (.iload_n 2, 1) := by decide +kernel
theorem dX11_bindOne_85 : decode cX11_bindOne 85 = .ok (.if_icmp .ne 17, 3) := by decide +kernel
theorem dX11_bindOne_88 : decode cX11_bindOne 88 = .ok (.aload_n 0, 1) := by decide +kernel
theorem dX11_bindOne_89 : decode cX11_bindOne 89 = .ok (.iload_n 1, 1) := by decide +kernel
theorem dX11_bindOne_90 : decode cX11_bindOne 90 = .ok (.iload 5, 2) := by decide +kernel
theorem dX11_bindOne_92 : decode cX11_bindOne 92 = .ok (.invokevirtual 309, 3) := by decide +kernel
theorem dX11_bindOne_95 : decode cX11_bindOne 95 = .ok (.ifCond .eq 7, 3) := by decide +kernel
theorem dX11_bindOne_98 : decode cX11_bindOne 98 = .ok (.iconst 1, 1) := by decide +kernel
theorem dX11_bindOne_99 : decode cX11_bindOne 99 = .ok (.goto 4, 3) := by decide +kernel
theorem dX11_bindOne_102 : decode cX11_bindOne 102 = .ok (.iconst 0, 1) := by decide +kernel
theorem dX11_bindOne_103 : decode cX11_bindOne 103 = .ok (.istore_n 3, 1) := by decide +kernel
theorem dX11_bindOne_104 : decode cX11_bindOne 104 = .ok (.iinc 5 1, 3) := by decide +kernel
theorem dX11_bindOne_107 : decode cX11_bindOne 107 = .ok (.goto (-70), 3) := by decide +kernel
theorem dX11_bindOne_110 : decode cX11_bindOne 110 = .ok (.goto (-85), 3) := by decide +kernel
theorem dX11_bindOne_113 : decode cX11_bindOne 113 = .ok (.aload_n 0, 1) := by decide +kernel
theorem dX11_bindOne_114 : decode cX11_bindOne 114 = .ok (.getfield 96, 3) := by decide +kernel
theorem dX11_bindOne_117 : decode cX11_bindOne 117 = .ok (.iload_n 1, 1) := by decide +kernel
theorem dX11_bindOne_118 : decode cX11_bindOne 118 = .ok (.iload_n 2, 1) := by decide +kernel
theorem dX11_bindOne_119 : decode cX11_bindOne 119 = .ok (.iastore, 1) := by decide +kernel
theorem dX11_bindOne_120 : decode cX11_bindOne 120 = .ok (.return_, 1) := by decide +kernel
theorem dX11_bindRegisters_0 : decode cX11_bindRegisters 0 = .ok (.iconst 0, 1) := by decide +kernel
theorem dX11_bindRegisters_1 : decode cX11_bindRegisters 1 = .ok (.istore_n 1, 1) := by decide +kernel
theorem dX11_bindRegisters_2 : decode cX11_bindRegisters 2 = .ok (.iload_n 1, 1) := by decide +kernel
theorem dX11_bindRegisters_3 : decode cX11_bindRegisters 3 = .ok (.aload_n 0, 1) := by decide +kernel
theorem dX11_bindRegisters_4 : decode cX11_bindRegisters 4 = .ok (.getfield 261, 3) := by decide +kernel
theorem dX11_bindRegisters_7 : decode cX11_bindRegisters 7 = .ok (.if_icmp .ge 27, 3) := by decide +kernel
theorem dX11_bindRegisters_10 : decode cX11_bindRegisters 10 = .ok (.aload_n 0, 1) := by decide +kernel
theorem dX11_bindRegisters_11 : decode cX11_bindRegisters 11 = .ok (.getfield 96, 3) := by decide +kernel
theorem dX11_bindRegisters_14 : decode cX11_bindRegisters 14 = .ok (.iload_n 1, 1) := by decide +kernel
theorem dX11_bindRegisters_15 : decode cX11_bindRegisters 15 = .ok (.iconst (-1), 1) := by decide +kernel
theorem dX11_bindRegisters_16 : decode cX11_bindRegisters 16 = .ok (.iastore, 1) := by decide +kernel
theorem dX11_bindRegisters_17 : decode cX11_bindRegisters 17 = .ok (.aload_n 0, 1) := by decide +kernel
theorem dX11_bindRegisters_18 : decode cX11_bindRegisters 18 = .ok (.getfield 111, 3) := by decide +kernel
theorem dX11_bindRegisters_21 : decode cX11_bindRegisters 21 = .ok (.iload_n 1, 1) := by decide +kernel
theorem dX11_bindRegisters_22 : decode cX11_bindRegisters 22 = .ok (.aload_n 0, 1) := by decide +kernel
theorem dX11_bindRegisters_23 : decode cX11_bindRegisters 23 = .ok (.iload_n 1, 1) := by decide +kernel
theorem dX11_bindRegisters_24 : decode cX11_bindRegisters 24 = .ok (.invokevirtual 312, 3) := by decide +kernel
theorem dX11_bindRegisters_27 : decode cX11_bindRegisters 27 = .ok (.iastore, 1) := by decide +kernel
theorem dX11_bindRegisters_28 : decode cX11_bindRegisters 28 = .ok (.iinc 1 1, 3) := by decide +kernel
theorem dX11_bindRegisters_31 : decode cX11_bindRegisters 31 = .ok (.goto (-29), 3) := by decide +kernel
theorem dX11_bindRegisters_34 : decode cX11_bindRegisters 34 = .ok (.iconst 0, 1) := by decide +kernel
theorem dX11_bindRegisters_35 : decode cX11_bindRegisters 35 = .ok (.istore_n 1, 1) := by decide +kernel
theorem dX11_bindRegisters_36 : decode cX11_bindRegisters 36 = .ok (.iconst 0, 1) := by decide +kernel
theorem dX11_bindRegisters_37 : decode cX11_bindRegisters 37 = .ok (.istore_n 2, 1) := by decide +kernel
theorem dX11_bindRegisters_38 : decode cX11_bindRegisters 38 = .ok (.iload_n 2, 1) := by decide +kernel
theorem dX11_bindRegisters_39 : decode cX11_bindRegisters 39 = .ok (.aload_n 0, 1) := by decide +kernel
theorem dX11_bindRegisters_40 : decode cX11_bindRegisters 40 = .ok (.getfield 261, 3) := by decide +kernel
theorem dX11_bindRegisters_43 : decode cX11_bindRegisters 43 = .ok (.if_icmp .ge 25, 3) := by decide +kernel
theorem dX11_bindRegisters_46 : decode cX11_bindRegisters 46 = .ok (.aload_n 0, 1) := by decide +kernel
theorem dX11_bindRegisters_47 : decode cX11_bindRegisters 47 = .ok (.iload_n 2, 1) := by decide +kernel
theorem dX11_bindRegisters_48 : decode cX11_bindRegisters 48 = .ok (.invokevirtual 315, 3) := by decide +kernel
theorem dX11_bindRegisters_51 : decode cX11_bindRegisters 51 = .ok (.ifCond .eq 9, 3) := by decide +kernel
theorem dX11_bindRegisters_54 : decode cX11_bindRegisters 54 = .ok (.iload_n 1, 1) := by decide +kernel
theorem dX11_bindRegisters_55 : decode cX11_bindRegisters 55 = .ok (.iconst 1, 1) := by decide +kernel
theorem dX11_bindRegisters_56 : decode cX11_bindRegisters 56 = .ok (.iadd, 1) := by decide +kernel
theorem dX11_bindRegisters_57 : decode cX11_bindRegisters 57 = .ok (.goto 4, 3) := by decide +kernel
theorem dX11_bindRegisters_60 : decode cX11_bindRegisters 60 = .ok (.iload_n 1, 1) := by decide +kernel
theorem dX11_bindRegisters_61 : decode cX11_bindRegisters 61 = .ok (.istore_n 1, 1) := by decide +kernel
theorem dX11_bindRegisters_62 : decode cX11_bindRegisters 62 = .ok (.iinc 2 1, 3) := by decide +kernel
theorem dX11_bindRegisters_65 : decode cX11_bindRegisters 65 = .ok (.goto (-27), 3) := by decide +kernel
theorem dX11_bindRegisters_68 : decode cX11_bindRegisters 68 = .ok (.iload_n 1, 1) := by decide +kernel
theorem dX11_bindRegisters_69 : decode cX11_bindRegisters 69 = .ok (.ifCond .le 80, 3) := by decide +kernel
theorem dX11_bindRegisters_72 : decode cX11_bindRegisters 72 = .ok (.iconst (-1), 1) := by decide +kernel
theorem dX11_bindRegisters_73 : decode cX11_bindRegisters 73 = .ok (.istore_n 2, 1) := by decide +kernel
theorem dX11_bindRegisters_74 : decode cX11_bindRegisters 74 = .ok (.iconst 0, 1) := by decide +kernel
theorem dX11_bindRegisters_75 : decode cX11_bindRegisters 75 = .ok (.istore_n 3, 1) := by decide +kernel
theorem dX11_bindRegisters_76 : decode cX11_bindRegisters 76 = .ok (.iload_n 3, 1) := by decide +kernel
theorem dX11_bindRegisters_77 : decode cX11_bindRegisters 77 = .ok (.aload_n 0, 1) := by decide +kernel
theorem dX11_bindRegisters_78 : decode cX11_bindRegisters 78 = .ok (.getfield 261, 3) := by decide +kernel
theorem dX11_bindRegisters_81 : decode cX11_bindRegisters 81 = .ok (.if_icmp .ge 57, 3) := by decide +kernel
theorem dX11_bindRegisters_84 : decode cX11_bindRegisters 84 = .ok (.aload_n 0, 1) := by decide +kernel
theorem dX11_bindRegisters_85 : decode cX11_bindRegisters 85 = .ok (.iload_n 3, 1) := by decide +kernel
theorem dX11_bindRegisters_86 : decode cX11_bindRegisters 86 = .ok (.invokevirtual 315, 3) := by decide +kernel
theorem dX11_bindRegisters_89 : decode cX11_bindRegisters 89 = .ok (.ifCond .eq 16, 3) := by decide +kernel
theorem dX11_bindRegisters_92 : decode cX11_bindRegisters 92 = .ok (.aload_n 0, 1) := by decide +kernel
theorem dX11_bindRegisters_93 : decode cX11_bindRegisters 93 = .ok (.getfield 96, 3) := by decide +kernel
theorem dX11_bindRegisters_96 : decode cX11_bindRegisters 96 = .ok (.iload_n 3, 1) := by decide +kernel
theorem dX11_bindRegisters_97 : decode cX11_bindRegisters 97 = .ok (.iaload, 1) := by decide +kernel
theorem dX11_bindRegisters_98 : decode cX11_bindRegisters 98 = .ok (.ifCond .ge 7, 3) := by decide +kernel
theorem dX11_bindRegisters_101 : decode cX11_bindRegisters 101 = .ok (.iconst 1, 1) := by decide +kernel
theorem dX11_bindRegisters_102 : decode cX11_bindRegisters 102 = .ok (.goto 4, 3) := by decide +kernel
theorem dX11_bindRegisters_105 : decode cX11_bindRegisters 105 = .ok (.iconst 0, 1) := by decide +kernel
theorem dX11_bindRegisters_106 : decode cX11_bindRegisters 106 = .ok (.istore 4, 2) := by decide +kernel
theorem dX11_bindRegisters_108 : decode cX11_bindRegisters 108 = .ok (.iload 4, 2) := by decide +kernel
theorem dX11_bindRegisters_110 : decode cX11_bindRegisters 110 = .ok (.ifCond .eq 20, 3) := by decide +kernel
theorem dX11_bindRegisters_113 : decode cX11_bindRegisters 113 = .ok (.iload_n 2, 1) := by decide +kernel
theorem dX11_bindRegisters_114 : decode cX11_bindRegisters 114 = .ok (.ifCond .lt 12, 3) := by decide +kernel
theorem dX11_bindRegisters_117 : decode cX11_bindRegisters 117 = .ok (.aload_n 0, 1) := by decide +kernel
theorem dX11_bindRegisters_118 : decode cX11_bindRegisters 118 = .ok (.iload_n 3, 1) := by decide +kernel
theorem dX11_bindRegisters_119 : decode cX11_bindRegisters 119 = .ok (.iload_n 2, 1) := by decide +kernel
theorem dX11_bindRegisters_120 : decode cX11_bindRegisters 120 = .ok (.invokevirtual 318, 3) := by decide +kernel
theorem dX11_bindRegisters_123 : decode cX11_bindRegisters 123 = .ok (.ifCond .eq 7, 3) := by decide +kernel
theorem dX11_bindRegisters_126 : decode cX11_bindRegisters 126 = .ok (.iload_n 3, 1) := by decide +kernel
theorem dX11_bindRegisters_127 : decode cX11_bindRegisters 127 = .ok (.goto 4, 3) := by decide +kernel
theorem dX11_bindRegisters_130 : decode cX11_bindRegisters 130 = .ok (.iload_n 2, 1) := by decide +kernel
theorem dX11_bindRegisters_131 : decode cX11_bindRegisters 131 = .ok (.istore_n 2, 1) := by decide +kernel
theorem dX11_bindRegisters_132 : decode cX11_bindRegisters 132 = .ok (.iinc 3 1, 3) := by decide +kernel
theorem dX11_bindRegisters_135 : decode cX11_bindRegisters 135 = .ok (.goto (-59), 3) := by decide +kernel
theorem dX11_bindRegisters_138 : decode cX11_bindRegisters 138 = .ok (.aload_n 0, 1) := by decide +kernel
theorem dX11_bindRegisters_139 : decode cX11_bindRegisters 139 = .ok (.iload_n 2, 1) := by decide +kernel
theorem dX11_bindRegisters_140 : decode cX11_bindRegisters 140 = .ok (.invokevirtual 321, 3) := by decide +kernel
theorem dX11_bindRegisters_143 : decode cX11_bindRegisters 143 = .ok (.iinc 1 (-1), 3) := by decide +kernel
theorem dX11_bindRegisters_146 : decode cX11_bindRegisters 146 = .ok (.goto (-78), 3) := by decide +kernel
theorem dX11_bindRegisters_149 : decode cX11_bindRegisters 149 = .ok (.return_, 1) := by decide +kernel
theorem dX11_lay_0 : decode cX11_lay 0 = .ok (.iconst 0, 1) := by decide +kernel
theorem dX11_lay_1 : decode cX11_lay 1 = .ok (.istore_n 1, 1) := by decide +kernel
theorem dX11_lay_2 : decode cX11_lay 2 = .ok (.iload_n 1, 1) := by decide +kernel
theorem dX11_lay_3 : decode cX11_lay 3 = .ok (.aload_n 0, 1) := by decide +kernel
theorem dX11_lay_4 : decode cX11_lay 4 = .ok (.getfield 264, 3) := by decide +kernel
theorem dX11_lay_7 : decode cX11_lay 7 = .ok (.if_icmp .ge 14, 3) := by decide +kernel
theorem dX11_lay_10 : decode cX11_lay 10 = .ok (.aload_n 0, 1) := by decide +kernel
theorem dX11_lay_11 : decode cX11_lay 11 = .ok (.iload_n 1, 1) := by decide +kernel
theorem dX11_lay_12 : decode cX11_lay 12 = .ok (.invokevirtual 324, 3) := by decide +kernel
theorem dX11_lay_15 : decode cX11_lay 15 = .ok (.iinc 1 1, 3) := by decide +kernel
theorem dX11_lay_18 : decode cX11_lay 18 = .ok (.goto (-16), 3) := by decide +kernel
theorem dX11_lay_21 : decode cX11_lay 21 = .ok (.aload_n 0, 1) := by decide +kernel
theorem dX11_lay_22 : decode cX11_lay 22 = .ok (.invokevirtual 327, 3) := by decide +kernel
theorem dX11_lay_25 : decode cX11_lay 25 = .ok (.aload_n 0, 1) := by decide +kernel
theorem dX11_lay_26 : decode cX11_lay 26 = .ok (.invokevirtual 330, 3) := by decide +kernel
theorem dX11_lay_29 : decode cX11_lay 29 = .ok (.return_, 1) := by decide +kernel
theorem dX11_units_0 : decode cX11_units 0 = .ok (.aload_n 0, 1) := by decide +kernel
theorem dX11_units_1 : decode cX11_units 1 = .ok (.iload_n 1, 1) := by decide +kernel
theorem dX11_units_2 : decode cX11_units 2 = .ok (.ifCond .lt 37, 3) := by decide +kernel
theorem dX11_units_5 : decode cX11_units 5 = .ok (.iload_n 1, 1) := by decide +kernel
theorem dX11_units_6 : decode cX11_units 6 = .ok (.iconst 2, 1) := by decide +kernel
theorem dX11_units_7 : decode cX11_units 7 = .ok (.if_icmp .gt 32, 3) := by decide +kernel
theorem dX11_units_10 : decode cX11_units 10 = .ok (.iload_n 2, 1) := by decide +kernel
theorem dX11_units_11 : decode cX11_units 11 = .ok (.iconst 1, 1) := by decide +kernel
theorem dX11_units_12 : decode cX11_units 12 = .ok (.if_icmp .lt 27, 3) := by decide +kernel
theorem dX11_units_15 : decode cX11_units 15 = .ok (.iload_n 2, 1) := by decide +kernel
theorem dX11_units_16 : decode cX11_units 16 = .ok (.iconst 4, 1) := by decide +kernel
theorem dX11_units_17 : decode cX11_units 17 = .ok (.if_icmp .gt 22, 3) := by decide +kernel
theorem dX11_units_20 : decode cX11_units 20 = .ok (.iload_n 3, 1) := by decide +kernel
theorem dX11_units_21 : decode cX11_units 21 = .ok (.iconst 1, 1) := by decide +kernel
theorem dX11_units_22 : decode cX11_units 22 = .ok (.if_icmp .lt 17, 3) := by decide +kernel
theorem dX11_units_25 : decode cX11_units 25 = .ok (.iload_n 3, 1) := by decide +kernel
theorem dX11_units_26 : decode cX11_units 26 = .ok (.iconst 4, 1) := by decide +kernel
theorem dX11_units_27 : decode cX11_units 27 = .ok (.if_icmp .gt 12, 3) := by decide +kernel
theorem dX11_units_30 : decode cX11_units 30 = .ok (.iload_n 1, 1) := by decide +kernel
theorem dX11_units_31 : decode cX11_units 31 = .ok (.ifCond .ne 12, 3) := by decide +kernel
theorem dX11_units_34 : decode cX11_units 34 = .ok (.iload_n 3, 1) := by decide +kernel
theorem dX11_units_35 : decode cX11_units 35 = .ok (.iconst 1, 1) := by decide +kernel
theorem dX11_units_36 : decode cX11_units 36 = .ok (.if_icmp .eq 7, 3) := by decide +kernel
theorem dX11_units_39 : decode cX11_units 39 = .ok (.iconst 1, 1) := by decide +kernel
theorem dX11_units_40 : decode cX11_units 40 = .ok (.goto 4, 3) := by decide +kernel
theorem dX11_units_43 : decode cX11_units 43 = .ok (.iconst 0, 1) := by decide +kernel
theorem dX11_units_44 : decode cX11_units 44 = .ok (.putfield 117, 3) := by decide +kernel
theorem dX11_units_47 : decode cX11_units 47 = .ok (.aload_n 0, 1) := by decide +kernel
theorem dX11_units_48 : decode cX11_units 48 = .ok (.getfield 117, 3) := by decide +kernel
theorem dX11_units_51 : decode cX11_units 51 = .ok (.ifCond .ne 21, 3) := by decide +kernel
theorem dX11_units_54 : decode cX11_units 54 = .ok (.aload_n 0, 1) := by decide +kernel
theorem dX11_units_55 : decode cX11_units 55 = .ok (.getfield 81, 3) := by decide +kernel
theorem dX11_units_58 : decode cX11_units 58 = .ok (.iload_n 1, 1) := by decide +kernel
theorem dX11_units_59 : decode cX11_units 59 = .ok (.iload_n 2, 1) := by decide +kernel
theorem dX11_units_60 : decode cX11_units 60 = .ok (.iastore, 1) := by decide +kernel
theorem dX11_units_61 : decode cX11_units 61 = .ok (.aload_n 0, 1) := by decide +kernel
theorem dX11_units_62 : decode cX11_units 62 = .ok (.getfield 84, 3) := by decide +kernel
theorem dX11_units_65 : decode cX11_units 65 = .ok (.iload_n 1, 1) := by decide +kernel
theorem dX11_units_66 : decode cX11_units 66 = .ok (.iload_n 3, 1) := by decide +kernel
theorem dX11_units_67 : decode cX11_units 67 = .ok (.iastore, 1) := by decide +kernel
theorem dX11_units_68 : decode cX11_units 68 = .ok (.aload_n 0, 1) := by decide +kernel
theorem dX11_units_69 : decode cX11_units 69 = .ok (.invokevirtual 267, 3) := by decide +kernel
theorem dX11_units_72 : decode cX11_units 72 = .ok (.return_, 1) := by decide +kernel
theorem dX11_told_0 : decode cX11_told 0 = .ok (.aload_n 0, 1) := by decide +kernel
theorem dX11_told_1 : decode cX11_told 1 = .ok (.iload_n 1, 1) := by decide +kernel
theorem dX11_told_2 : decode cX11_told 2 = .ok (.ifCond .lt 9, 3) := by decide +kernel
theorem dX11_told_5 : decode cX11_told 5 = .ok (.iload_n 1, 1) := by decide +kernel
theorem dX11_told_6 : decode cX11_told 6 = .ok (.bipush 6, 2) := by decide +kernel
theorem dX11_told_8 : decode cX11_told 8 = .ok (.if_icmp .le 7, 3) := by decide +kernel
theorem dX11_told_11 : decode cX11_told 11 = .ok (.iconst 1, 1) := by decide +kernel
theorem dX11_told_12 : decode cX11_told 12 = .ok (.goto 4, 3) := by decide +kernel
theorem dX11_told_15 : decode cX11_told 15 = .ok (.iconst 0, 1) := by decide +kernel
theorem dX11_told_16 : decode cX11_told 16 = .ok (.putfield 117, 3) := by decide +kernel
theorem dX11_told_19 : decode cX11_told 19 = .ok (.aload_n 0, 1) := by decide +kernel
theorem dX11_told_20 : decode cX11_told 20 = .ok (.getfield 117, 3) := by decide +kernel
theorem dX11_told_23 : decode cX11_told 23 = .ok (.ifCond .le 5, 3) := by decide +kernel
theorem dX11_told_26 : decode cX11_told 26 = .ok (.iconst 0, 1) := by decide +kernel
theorem dX11_told_27 : decode cX11_told 27 = .ok (.ireturn, 1) := by decide +kernel
theorem dX11_told_28 : decode cX11_told 28 = .ok (.iconst 0, 1) := by decide +kernel
theorem dX11_told_29 : decode cX11_told 29 = .ok (.istore_n 2, 1) := by decide +kernel
theorem dX11_told_30 : decode cX11_told 30 = .ok (.iconst 0, 1) := by decide +kernel
theorem dX11_told_31 : decode cX11_told 31 = .ok (.istore_n 3, 1) := by decide +kernel
theorem dX11_told_32 : decode cX11_told 32 = .ok (.iconst 0, 1) := by decide +kernel
theorem dX11_told_33 : decode cX11_told 33 = .ok (.istore 4, 2) := by decide +kernel
theorem dX11_told_35 : decode cX11_told 35 = .ok (.iload 4, 2) := by decide +kernel
theorem dX11_told_37 : decode cX11_told 37 = .ok (.aload_n 0, 1) := by decide +kernel
theorem dX11_told_38 : decode cX11_told 38 = .ok (.getfield 264, 3) := by decide +kernel
theorem dX11_told_41 : decode cX11_told 41 = .ok (.if_icmp .ge 19, 3) := by decide +kernel
theorem dX11_told_44 : decode cX11_told 44 = .ok (.iload_n 2, 1) := by decide +kernel
theorem dX11_told_45 : decode cX11_told 45 = .ok (.aload_n 0, 1) := by decide +kernel
theorem dX11_told_46 : decode cX11_told 46 = .ok (.getfield 99, 3) := by decide +kernel
theorem dX11_told_49 : decode cX11_told 49 = .ok (.iload 4, 2) := by decide +kernel
theorem dX11_told_51 : decode cX11_told 51 = .ok (.iaload, 1) := by decide +kernel
theorem dX11_told_52 : decode cX11_told 52 = .ok (.iadd, 1) := by decide +kernel
theorem dX11_told_53 : decode cX11_told 53 = .ok (.istore_n 2, 1) := by decide +kernel
theorem dX11_told_54 : decode cX11_told 54 = .ok (.iinc 4 1, 3) := by decide +kernel
theorem dX11_told_57 : decode cX11_told 57 = .ok (.goto (-22), 3) := by decide +kernel
theorem dX11_told_60 : decode cX11_told 60 = .ok (.iconst 0, 1) := by decide +kernel
theorem dX11_told_61 : decode cX11_told 61 = .ok (.istore 4, 2) := by decide +kernel
theorem dX11_told_63 : decode cX11_told 63 = .ok (.iload 4, 2) := by decide +kernel
theorem dX11_told_65 : decode cX11_told 65 = .ok (.aload_n 0, 1) := by decide +kernel
theorem dX11_told_66 : decode cX11_told 66 = .ok (.getfield 261, 3) := by decide +kernel
theorem dX11_told_69 : decode cX11_told 69 = .ok (.if_icmp .ge 70, 3) := by decide +kernel
theorem dX11_told_72 : decode cX11_told 72 = .ok (.iload_n 1, 1) := by decide +kernel
theorem dX11_told_73 : decode cX11_told 73 = .ok (.iconst 2, 1) := by decide +kernel
theorem dX11_told_74 : decode cX11_told 74 = .ok (.if_icmp .ne 15, 3) := by decide +kernel
theorem dX11_told_77 : decode cX11_told 77 = .ok (.aload_n 0, 1) := by decide +kernel
theorem dX11_told_78 : decode cX11_told 78 = .ok (.getfield 96, 3) := by decide +kernel
theorem dX11_told_81 : decode cX11_told 81 = .ok (.iload 4, 2) := by decide +kernel
theorem dX11_told_83 : decode cX11_told 83 = .ok (.iaload, 1) := by decide +kernel
theorem dX11_told_84 : decode cX11_told 84 = .ok (.iconst 1, 1) := by decide +kernel
theorem dX11_told_85 : decode cX11_told 85 = .ok (.iadd, 1) := by decide +kernel
theorem dX11_told_86 : decode cX11_told 86 = .ok (.goto 32, 3) := by decide +kernel
theorem dX11_told_89 : decode cX11_told 89 = .ok (.aload_n 0, 1) := by decide +kernel
theorem dX11_told_90 : decode cX11_told 90 = .ok (.getfield 51, 3) := by decide +kernel
theorem dX11_told_93 : decode cX11_told 93 = .ok (.iload 4, 2) := by decide +kernel
theorem dX11_told_95 : decode cX11_told 95 = .ok (.iaload, 1) := by decide +kernel
theorem dX11_told_96 : decode cX11_told 96 = .ok (.invokestatic 277, 3) := by decide +kernel
theorem dX11_told_99 : decode cX11_told 99 = .ok (.iload_n 1, 1) := by decide +kernel
theorem dX11_told_100 : decode cX11_told 100 = .ok (.iconst 3, 1) := by decide +kernel
theorem dX11_told_101 : decode cX11_told 101 = .ok (.isub, 1) := by decide +kernel
theorem dX11_told_102 : decode cX11_told 102 = .ok (.if_icmp .ne 15, 3) := by decide +kernel
theorem dX11_told_105 : decode cX11_told 105 = .ok (.aload_n 0, 1) := by decide +kernel
theorem dX11_told_106 : decode cX11_told 106 = .ok (.getfield 93, 3) := by decide +kernel
theorem dX11_told_109 : decode cX11_told 109 = .ok (.iload 4, 2) := by decide +kernel
theorem dX11_told_111 : decode cX11_told 111 = .ok (.iaload, 1) := by decide +kernel
theorem dX11_told_112 : decode cX11_told 112 = .ok (.iconst 1, 1) := by decide +kernel
theorem dX11_told_113 : decode cX11_told 113 = .ok (.iadd, 1) := by decide +kernel
theorem dX11_told_114 : decode cX11_told 114 = .ok (.goto 4, 3) := by decide +kernel
theorem dX11_told_117 : decode cX11_told 117 = .ok (.iconst 0, 1) := by decide +kernel
theorem dX11_told_118 : decode cX11_told 118 = .ok (.istore 5, 2) := by decide +kernel
theorem dX11_told_120 : decode cX11_told 120 = .ok (.iload 5, 2) := by decide +kernel
theorem dX11_told_122 : decode cX11_told 122 = .ok (.iload_n 3, 1) := by decide +kernel
theorem dX11_told_123 : decode cX11_told 123 = .ok (.if_icmp .le 8, 3) := by decide +kernel
theorem dX11_told_126 : decode cX11_told 126 = .ok (.iload 5, 2) := by decide +kernel
theorem dX11_told_128 : decode cX11_told 128 = .ok (.goto 4, 3) := by decide +kernel
theorem dX11_told_131 : decode cX11_told 131 = .ok (.iload_n 3, 1) := by decide +kernel
theorem dX11_told_132 : decode cX11_told 132 = .ok (.istore_n 3, 1) := by decide +kernel
theorem dX11_told_133 : decode cX11_told 133 = .ok (.iinc 4 1, 3) := by decide +kernel
theorem dX11_told_136 : decode cX11_told 136 = .ok (.goto (-73), 3) := by decide +kernel
theorem dX11_told_139 : decode cX11_told 139 = .ok (.iload_n 1, 1) := by decide +kernel
theorem dX11_told_140 : decode cX11_told 140 = .ok (.ifCond .ne 10, 3) := by decide +kernel
theorem dX11_told_143 : decode cX11_told 143 = .ok (.aload_n 0, 1) := by decide +kernel
theorem dX11_told_144 : decode cX11_told 144 = .ok (.getfield 264, 3) := by decide +kernel
theorem dX11_told_147 : decode cX11_told 147 = .ok (.goto 13, 3) := by decide +kernel
theorem dX11_told_150 : decode cX11_told 150 = .ok (.iload_n 1, 1) := by decide +kernel
theorem dX11_told_151 : decode cX11_told 151 = .ok (.iconst 1, 1) := by decide +kernel
theorem dX11_told_152 : decode cX11_told 152 = .ok (.if_icmp .ne 7, 3) := by decide +kernel
theorem dX11_told_155 : decode cX11_told 155 = .ok (.iload_n 2, 1) := by decide +kernel
theorem dX11_told_156 : decode cX11_told 156 = .ok (.goto 4, 3) := by decide +kernel
theorem dX11_told_159 : decode cX11_told 159 = .ok (.iload_n 3, 1) := by decide +kernel
theorem dX11_told_160 : decode cX11_told 160 = .ok (.ireturn, 1) := by decide +kernel
theorem dX11_block_0 : decode cX11_block 0 = .ok (.aload_n 0, 1) := by decide +kernel
theorem dX11_block_1 : decode cX11_block 1 = .ok (.iload_n 1, 1) := by decide +kernel
theorem dX11_block_2 : decode cX11_block 2 = .ok (.ifCond .lt 11, 3) := by decide +kernel
theorem dX11_block_5 : decode cX11_block 5 = .ok (.iload_n 1, 1) := by decide +kernel
theorem dX11_block_6 : decode cX11_block 6 = .ok (.aload_n 0, 1) := by decide +kernel
theorem dX11_block_7 : decode cX11_block 7 = .ok (.getfield 264, 3) := by decide +kernel
theorem dX11_block_10 : decode cX11_block 10 = .ok (.if_icmp .lt 7, 3) := by decide +kernel
theorem dX11_block_13 : decode cX11_block 13 = .ok (.iconst 1, 1) := by decide +kernel
theorem dX11_block_14 : decode cX11_block 14 = .ok (.goto 17, 3) := by decide +kernel
theorem dX11_block_17 : decode cX11_block 17 = .ok (.iload_n 2, 1) := by decide +kernel
theorem dX11_block_18 : decode cX11_block 18 = .ok (.ifCond .lt 8, 3) := by decide +kernel
theorem dX11_block_21 : decode cX11_block 21 = .ok (.iload_n 2, 1) := by decide +kernel
theorem dX11_block_22 : decode cX11_block 22 = .ok (.iconst 4, 1) := by decide +kernel
theorem dX11_block_23 : decode cX11_block 23 = .ok (.if_icmp .le 7, 3) := by decide +kernel
theorem dX11_block_26 : decode cX11_block 26 = .ok (.iconst 2, 1) := by decide +kernel
theorem dX11_block_27 : decode cX11_block 27 = .ok (.goto 4, 3) := by decide +kernel
theorem dX11_block_30 : decode cX11_block 30 = .ok (.iconst 0, 1) := by decide +kernel
theorem dX11_block_31 : decode cX11_block 31 = .ok (.putfield 117, 3) := by decide +kernel
theorem dX11_block_34 : decode cX11_block 34 = .ok (.aload_n 0, 1) := by decide +kernel
theorem dX11_block_35 : decode cX11_block 35 = .ok (.getfield 117, 3) := by decide +kernel
theorem dX11_block_38 : decode cX11_block 38 = .ok (.ifCond .le 5, 3) := by decide +kernel
theorem dX11_block_41 : decode cX11_block 41 = .ok (.iconst 0, 1) := by decide +kernel
theorem dX11_block_42 : decode cX11_block 42 = .ok (.ireturn, 1) := by decide +kernel
theorem dX11_block_43 : decode cX11_block 43 = .ok (.aload_n 0, 1) := by decide +kernel
theorem dX11_block_44 : decode cX11_block 44 = .ok (.iload_n 1, 1) := by decide +kernel
theorem dX11_block_45 : decode cX11_block 45 = .ok (.invokevirtual 283, 3) := by decide +kernel
theorem dX11_block_48 : decode cX11_block 48 = .ok (.istore_n 3, 1) := by decide +kernel
theorem dX11_block_49 : decode cX11_block 49 = .ok (.iload_n 2, 1) := by decide +kernel
theorem dX11_block_50 : decode cX11_block 50 = .ok (.ifCond .ne 12, 3) := by decide +kernel
theorem dX11_block_53 : decode cX11_block 53 = .ok (.aload_n 0, 1) := by decide +kernel
theorem dX11_block_54 : decode cX11_block 54 = .ok (.getfield 99, 3) := by decide +kernel
theorem dX11_block_57 : decode cX11_block 57 = .ok (.iload_n 1, 1) := by decide +kernel
theorem dX11_block_58 : decode cX11_block 58 = .ok (.iaload, 1) := by decide +kernel
theorem dX11_block_59 : decode cX11_block 59 = .ok (.goto 55, 3) := by decide +kernel
theorem dX11_block_62 : decode cX11_block 62 = .ok (.iload_n 2, 1) := by decide +kernel
theorem dX11_block_63 : decode cX11_block 63 = .ok (.iconst 1, 1) := by decide +kernel
theorem dX11_block_64 : decode cX11_block 64 = .ok (.if_icmp .ne 7, 3) := by decide +kernel
theorem dX11_block_67 : decode cX11_block 67 = .ok (.iload_n 3, 1) := by decide +kernel
theorem dX11_block_68 : decode cX11_block 68 = .ok (.goto 46, 3) := by decide +kernel
theorem dX11_block_71 : decode cX11_block 71 = .ok (.iload_n 2, 1) := by decide +kernel
theorem dX11_block_72 : decode cX11_block 72 = .ok (.iconst 2, 1) := by decide +kernel
theorem dX11_block_73 : decode cX11_block 73 = .ok (.if_icmp .ne 21, 3) := by decide +kernel
theorem dX11_block_76 : decode cX11_block 76 = .ok (.iload_n 3, 1) := by decide +kernel
theorem dX11_block_77 : decode cX11_block 77 = .ok (.ifCond .ge 7, 3) := by decide +kernel
theorem dX11_block_80 : decode cX11_block 80 = .ok (.iconst 0, 1) := by decide +kernel
theorem dX11_block_81 : decode cX11_block 81 = .ok (.goto 33, 3) := by decide +kernel
theorem dX11_block_84 : decode cX11_block 84 = .ok (.aload_n 0, 1) := by decide +kernel
theorem dX11_block_85 : decode cX11_block 85 = .ok (.iload_n 1, 1) := by decide +kernel
theorem dX11_block_86 : decode cX11_block 86 = .ok (.invokevirtual 292, 3) := by decide +kernel
theorem dX11_block_89 : decode cX11_block 89 = .ok (.iload_n 3, 1) := by decide +kernel
theorem dX11_block_90 : decode cX11_block 90 = .ok (.isub, 1) := by decide +kernel
theorem dX11_block_91 : decode cX11_block 91 = .ok (.goto 23, 3) := by decide +kernel
theorem dX11_block_94 : decode cX11_block 94 = .ok (.iload_n 2, 1) := by decide +kernel
theorem dX11_block_95 : decode cX11_block 95 = .ok (.iconst 3, 1) := by decide +kernel
theorem dX11_block_96 : decode cX11_block 96 = .ok (.if_icmp .ne 12, 3) := by decide +kernel
theorem dX11_block_99 : decode cX11_block 99 = .ok (.aload_n 0, 1) := by decide +kernel
theorem dX11_block_100 : decode cX11_block 100 = .ok (.getfield 72, 3) := by decide +kernel
theorem dX11_block_103 : decode cX11_block 103 = .ok (.iload_n 1, 1) := by decide +kernel
theorem dX11_block_104 : decode cX11_block 104 = .ok (.iaload, 1) := by decide +kernel
theorem dX11_block_105 : decode cX11_block 105 = .ok (.goto 9, 3) := by decide +kernel
theorem dX11_block_108 : decode cX11_block 108 = .ok (.aload_n 0, 1) := by decide +kernel
theorem dX11_block_109 : decode cX11_block 109 = .ok (.getfield 75, 3) := by decide +kernel
theorem dX11_block_112 : decode cX11_block 112 = .ok (.iload_n 1, 1) := by decide +kernel
theorem dX11_block_113 : decode cX11_block 113 = .ok (.iaload, 1) := by decide +kernel
theorem dX11_block_114 : decode cX11_block 114 = .ok (.ireturn, 1) := by decide +kernel
theorem dX11_operation_0 : decode cX11_operation 0 = .ok (.aload_n 0, 1) := by decide +kernel
theorem dX11_operation_1 : decode cX11_operation 1 = .ok (.iload_n 1, 1) := by decide +kernel
theorem dX11_operation_2 : decode cX11_operation 2 = .ok (.ifCond .lt 11, 3) := by decide +kernel
theorem dX11_operation_5 : decode cX11_operation 5 = .ok (.iload_n 1, 1) := by decide +kernel
theorem dX11_operation_6 : decode cX11_operation 6 = .ok (.aload_n 0, 1) := by decide +kernel
theorem dX11_operation_7 : decode cX11_operation 7 = .ok (.getfield 261, 3) := by decide +kernel
theorem dX11_operation_10 : decode cX11_operation 10 = .ok (.if_icmp .lt 7, 3) := by decide +kernel
theorem dX11_operation_13 : decode cX11_operation 13 = .ok (.iconst 1, 1) := by decide +kernel
theorem dX11_operation_14 : decode cX11_operation 14 = .ok (.goto 17, 3) := by decide +kernel
theorem dX11_operation_17 : decode cX11_operation 17 = .ok (.iload_n 2, 1) := by decide +kernel
theorem dX11_operation_18 : decode cX11_operation 18 = .ok (.ifCond .lt 8, 3) := by decide +kernel
theorem dX11_operation_21 : decode cX11_operation 21 = .ok (.iload_n 2, 1) := by decide +kernel
theorem dX11_operation_22 : decode cX11_operation 22 = .ok (.iconst 5, 1) := by decide +kernel
theorem dX11_operation_23 : decode cX11_operation 23 = .ok (.if_icmp .le 7, 3) := by decide +kernel
theorem dX11_operation_26 : decode cX11_operation 26 = .ok (.iconst 2, 1) := by decide +kernel
theorem dX11_operation_27 : decode cX11_operation 27 = .ok (.goto 4, 3) := by decide +kernel
theorem dX11_operation_30 : decode cX11_operation 30 = .ok (.iconst 0, 1) := by decide +kernel
theorem dX11_operation_31 : decode cX11_operation 31 = .ok (.putfield 117, 3) := by decide +kernel
theorem dX11_operation_34 : decode cX11_operation 34 = .ok (.aload_n 0, 1) := by decide +kernel
theorem dX11_operation_35 : decode cX11_operation 35 = .ok (.getfield 117, 3) := by decide +kernel
theorem dX11_operation_38 : decode cX11_operation 38 = .ok (.ifCond .le 5, 3) := by decide +kernel
theorem dX11_operation_41 : decode cX11_operation 41 = .ok (.iconst 0, 1) := by decide +kernel
theorem dX11_operation_42 : decode cX11_operation 42 = .ok (.ireturn, 1) := by decide +kernel
theorem dX11_operation_43 : decode cX11_operation 43 = .ok (.iload_n 2, 1) := by decide +kernel
theorem dX11_operation_44 : decode cX11_operation 44 = .ok (.ifCond .ne 15, 3) := by decide +kernel
theorem dX11_operation_47 : decode cX11_operation 47 = .ok (.aload_n 0, 1) := by decide +kernel
theorem dX11_operation_48 : decode cX11_operation 48 = .ok (.getfield 51, 3) := by decide +kernel
theorem dX11_operation_51 : decode cX11_operation 51 = .ok (.iload_n 1, 1) := by decide +kernel
theorem dX11_operation_52 : decode cX11_operation 52 = .ok (.iaload, 1) := by decide +kernel
theorem dX11_operation_53 : decode cX11_operation 53 = .ok (.invokestatic 277, 3) := by decide +kernel
theorem dX11_operation_56 : decode cX11_operation 56 = .ok (.goto 65, 3) := by decide +kernel
theorem dX11_operation_59 : decode cX11_operation 59 = .ok (.iload_n 2, 1) := by decide +kernel
theorem dX11_operation_60 : decode cX11_operation 60 = .ok (.iconst 1, 1) := by decide +kernel
theorem dX11_operation_61 : decode cX11_operation 61 = .ok (.if_icmp .ne 12, 3) := by decide +kernel
theorem dX11_operation_64 : decode cX11_operation 64 = .ok (.aload_n 0, 1) := by decide +kernel
theorem dX11_operation_65 : decode cX11_operation 65 = .ok (.getfield 63, 3) := by decide +kernel
theorem dX11_operation_68 : decode cX11_operation 68 = .ok (.iload_n 1, 1) := by decide +kernel
theorem dX11_operation_69 : decode cX11_operation 69 = .ok (.iaload, 1) := by decide +kernel
theorem dX11_operation_70 : decode cX11_operation 70 = .ok (.goto 51, 3) := by decide +kernel
theorem dX11_operation_73 : decode cX11_operation 73 = .ok (.iload_n 2, 1) := by decide +kernel
theorem dX11_operation_74 : decode cX11_operation 74 = .ok (.iconst 2, 1) := by decide +kernel
theorem dX11_operation_75 : decode cX11_operation 75 = .ok (.if_icmp .ne 12, 3) := by decide +kernel
theorem dX11_operation_78 : decode cX11_operation 78 = .ok (.aload_n 0, 1) := by decide +kernel
theorem dX11_operation_79 : decode cX11_operation 79 = .ok (.getfield 90, 3) := by decide +kernel
theorem dX11_operation_82 : decode cX11_operation 82 = .ok (.iload_n 1, 1) := by decide +kernel
theorem dX11_operation_83 : decode cX11_operation 83 = .ok (.iaload, 1) := by decide +kernel
theorem dX11_operation_84 : decode cX11_operation 84 = .ok (.goto 37, 3) := by decide +kernel
theorem dX11_operation_87 : decode cX11_operation 87 = .ok (.iload_n 2, 1) := by decide +kernel
theorem dX11_operation_88 : decode cX11_operation 88 = .ok (.iconst 3, 1) := by decide +kernel
theorem dX11_operation_89 : decode cX11_operation 89 = .ok (.if_icmp .ne 12, 3) := by decide +kernel
theorem dX11_operation_92 : decode cX11_operation 92 = .ok (.aload_n 0, 1) := by decide +kernel
theorem dX11_operation_93 : decode cX11_operation 93 = .ok (.getfield 87, 3) := by decide +kernel
theorem dX11_operation_96 : decode cX11_operation 96 = .ok (.iload_n 1, 1) := by decide +kernel
theorem dX11_operation_97 : decode cX11_operation 97 = .ok (.iaload, 1) := by decide +kernel
theorem dX11_operation_98 : decode cX11_operation 98 = .ok (.goto 23, 3) := by decide +kernel
theorem dX11_operation_101 : decode cX11_operation 101 = .ok (.iload_n 2, 1) := by decide +kernel
theorem dX11_operation_102 : decode cX11_operation 102 = .ok (.iconst 4, 1) := by decide +kernel
theorem dX11_operation_103 : decode cX11_operation 103 = .ok (.if_icmp .ne 12, 3) := by decide +kernel
theorem dX11_operation_106 : decode cX11_operation 106 = .ok (.aload_n 0, 1) := by decide +kernel
theorem dX11_operation_107 : decode cX11_operation 107 = .ok (.getfield 93, 3) := by decide +kernel
theorem dX11_operation_110 : decode cX11_operation 110 = .ok (.iload_n 1, 1) := by decide +kernel
theorem dX11_operation_111 : decode cX11_operation 111 = .ok (.iaload, 1) := by decide +kernel
theorem dX11_operation_112 : decode cX11_operation 112 = .ok (.goto 9, 3) := by decide +kernel
theorem dX11_operation_115 : decode cX11_operation 115 = .ok (.aload_n 0, 1) := by decide +kernel
theorem dX11_operation_116 : decode cX11_operation 116 = .ok (.getfield 96, 3) := by decide +kernel
theorem dX11_operation_119 : decode cX11_operation 119 = .ok (.iload_n 1, 1) := by decide +kernel
theorem dX11_operation_120 : decode cX11_operation 120 = .ok (.iaload, 1) := by decide +kernel
theorem dX11_operation_121 : decode cX11_operation 121 = .ok (.ireturn, 1) := by decide +kernel
theorem dX11_set_0 : decode cX11_set 0 = .ok (.aload_n 0, 1) := by decide +kernel
theorem dX11_set_1 : decode cX11_set 1 = .ok (.iload_n 1, 1) := by decide +kernel
theorem dX11_set_2 : decode cX11_set 2 = .ok (.ifCond .lt 9, 3) := by decide +kernel
theorem dX11_set_5 : decode cX11_set 5 = .ok (.iload_n 1, 1) := by decide +kernel
theorem dX11_set_6 : decode cX11_set 6 = .ok (.bipush 7, 2) := by decide +kernel
theorem dX11_set_8 : decode cX11_set 8 = .ok (.if_icmp .le 7, 3) := by decide +kernel
theorem dX11_set_11 : decode cX11_set 11 = .ok (.iconst 1, 1) := by decide +kernel
theorem dX11_set_12 : decode cX11_set 12 = .ok (.goto 4, 3) := by decide +kernel
theorem dX11_set_15 : decode cX11_set 15 = .ok (.iconst 0, 1) := by decide +kernel
theorem dX11_set_16 : decode cX11_set 16 = .ok (.putfield 117, 3) := by decide +kernel
theorem dX11_set_19 : decode cX11_set 19 = .ok (.aload_n 0, 1) := by decide +kernel
theorem dX11_set_20 : decode cX11_set 20 = .ok (.getfield 117, 3) := by decide +kernel
theorem dX11_set_23 : decode cX11_set 23 = .ok (.ifCond .le 5, 3) := by decide +kernel
theorem dX11_set_26 : decode cX11_set 26 = .ok (.iconst 0, 1) := by decide +kernel
theorem dX11_set_27 : decode cX11_set 27 = .ok (.ireturn, 1) := by decide +kernel
theorem dX11_set_28 : decode cX11_set 28 = .ok (.aload_n 0, 1) := by decide +kernel
theorem dX11_set_29 : decode cX11_set 29 = .ok (.getfield 102, 3) := by decide +kernel
theorem dX11_set_32 : decode cX11_set 32 = .ok (.iload_n 1, 1) := by decide +kernel
theorem dX11_set_33 : decode cX11_set 33 = .ok (.iaload, 1) := by decide +kernel
theorem dX11_set_34 : decode cX11_set 34 = .ok (.istore_n 3, 1) := by decide +kernel
theorem dX11_set_35 : decode cX11_set 35 = .ok (.aload_n 0, 1) := by decide +kernel
theorem dX11_set_36 : decode cX11_set 36 = .ok (.getfield 102, 3) := by decide +kernel
theorem dX11_set_39 : decode cX11_set 39 = .ok (.iload_n 1, 1) := by decide +kernel
theorem dX11_set_40 : decode cX11_set 40 = .ok (.iload_n 2, 1) := by decide +kernel
theorem dX11_set_41 : decode cX11_set 41 = .ok (.iastore, 1) := by decide +kernel
theorem dX11_set_42 : decode cX11_set 42 = .ok (.iload_n 3, 1) := by decide +kernel
theorem dX11_set_43 : decode cX11_set 43 = .ok (.ireturn, 1) := by decide +kernel
theorem dX11_get_0 : decode cX11_get 0 = .ok (.aload_n 0, 1) := by decide +kernel
theorem dX11_get_1 : decode cX11_get 1 = .ok (.iload_n 1, 1) := by decide +kernel
theorem dX11_get_2 : decode cX11_get 2 = .ok (.ifCond .lt 9, 3) := by decide +kernel
theorem dX11_get_5 : decode cX11_get 5 = .ok (.iload_n 1, 1) := by decide +kernel
theorem dX11_get_6 : decode cX11_get 6 = .ok (.bipush 7, 2) := by decide +kernel
theorem dX11_get_8 : decode cX11_get 8 = .ok (.if_icmp .le 7, 3) := by decide +kernel
theorem dX11_get_11 : decode cX11_get 11 = .ok (.iconst 1, 1) := by decide +kernel
theorem dX11_get_12 : decode cX11_get 12 = .ok (.goto 4, 3) := by decide +kernel
theorem dX11_get_15 : decode cX11_get 15 = .ok (.iconst 0, 1) := by decide +kernel
theorem dX11_get_16 : decode cX11_get 16 = .ok (.putfield 117, 3) := by decide +kernel
theorem dX11_get_19 : decode cX11_get 19 = .ok (.aload_n 0, 1) := by decide +kernel
theorem dX11_get_20 : decode cX11_get 20 = .ok (.getfield 117, 3) := by decide +kernel
theorem dX11_get_23 : decode cX11_get 23 = .ok (.ifCond .le 7, 3) := by decide +kernel
theorem dX11_get_26 : decode cX11_get 26 = .ok (.iconst 0, 1) := by decide +kernel
theorem dX11_get_27 : decode cX11_get 27 = .ok (.goto 9, 3) := by decide +kernel
theorem dX11_get_30 : decode cX11_get 30 = .ok (.aload_n 0, 1) := by decide +kernel
theorem dX11_get_31 : decode cX11_get 31 = .ok (.getfield 102, 3) := by decide +kernel
theorem dX11_get_34 : decode cX11_get 34 = .ok (.iload_n 1, 1) := by decide +kernel
theorem dX11_get_35 : decode cX11_get 35 = .ok (.iaload, 1) := by decide +kernel
theorem dX11_get_36 : decode cX11_get 36 = .ok (.ireturn, 1) := by decide +kernel
theorem dX11_poke_0 : decode cX11_poke 0 = .ok (.aload_n 0, 1) := by decide +kernel
theorem dX11_poke_1 : decode cX11_poke 1 = .ok (.iload_n 1, 1) := by decide +kernel
theorem dX11_poke_2 : decode cX11_poke 2 = .ok (.ifCond .lt 9, 3) := by decide +kernel
theorem dX11_poke_5 : decode cX11_poke 5 = .ok (.iload_n 1, 1) := by decide +kernel
theorem dX11_poke_6 : decode cX11_poke 6 = .ok (.bipush 15, 2) := by decide +kernel
theorem dX11_poke_8 : decode cX11_poke 8 = .ok (.if_icmp .le 7, 3) := by decide +kernel
theorem dX11_poke_11 : decode cX11_poke 11 = .ok (.iconst 1, 1) := by decide +kernel
theorem dX11_poke_12 : decode cX11_poke 12 = .ok (.goto 4, 3) := by decide +kernel
theorem dX11_poke_15 : decode cX11_poke 15 = .ok (.iconst 0, 1) := by decide +kernel
theorem dX11_poke_16 : decode cX11_poke 16 = .ok (.putfield 117, 3) := by decide +kernel
theorem dX11_poke_19 : decode cX11_poke 19 = .ok (.aload_n 0, 1) := by decide +kernel
theorem dX11_poke_20 : decode cX11_poke 20 = .ok (.getfield 117, 3) := by decide +kernel
theorem dX11_poke_23 : decode cX11_poke 23 = .ok (.ifCond .le 5, 3) := by decide +kernel
theorem dX11_poke_26 : decode cX11_poke 26 = .ok (.iconst 0, 1) := by decide +kernel
theorem dX11_poke_27 : decode cX11_poke 27 = .ok (.ireturn, 1) := by decide +kernel
theorem dX11_poke_28 : decode cX11_poke 28 = .ok (.aload_n 0, 1) := by decide +kernel
theorem dX11_poke_29 : decode cX11_poke 29 = .ok (.getfield 105, 3) := by decide +kernel
theorem dX11_poke_32 : decode cX11_poke 32 = .ok (.iload_n 1, 1) := by decide +kernel
theorem dX11_poke_33 : decode cX11_poke 33 = .ok (.iaload, 1) := by decide +kernel
theorem dX11_poke_34 : decode cX11_poke 34 = .ok (.istore_n 3, 1) := by decide +kernel
theorem dX11_poke_35 : decode cX11_poke 35 = .ok (.aload_n 0, 1) := by decide +kernel
theorem dX11_poke_36 : decode cX11_poke 36 = .ok (.getfield 105, 3) := by decide +kernel
theorem dX11_poke_39 : decode cX11_poke 39 = .ok (.iload_n 1, 1) := by decide +kernel
theorem dX11_poke_40 : decode cX11_poke 40 = .ok (.iload_n 2, 1) := by decide +kernel
theorem dX11_poke_41 : decode cX11_poke 41 = .ok (.iastore, 1) := by decide +kernel
theorem dX11_poke_42 : decode cX11_poke 42 = .ok (.iload_n 3, 1) := by decide +kernel
theorem dX11_poke_43 : decode cX11_poke 43 = .ok (.ireturn, 1) := by decide +kernel
theorem dX11_peek_0 : decode cX11_peek 0 = .ok (.aload_n 0, 1) := by decide +kernel
theorem dX11_peek_1 : decode cX11_peek 1 = .ok (.iload_n 1, 1) := by decide +kernel
theorem dX11_peek_2 : decode cX11_peek 2 = .ok (.ifCond .lt 9, 3) := by decide +kernel
theorem dX11_peek_5 : decode cX11_peek 5 = .ok (.iload_n 1, 1) := by decide +kernel
theorem dX11_peek_6 : decode cX11_peek 6 = .ok (.bipush 15, 2) := by decide +kernel
theorem dX11_peek_8 : decode cX11_peek 8 = .ok (.if_icmp .le 7, 3) := by decide +kernel
theorem dX11_peek_11 : decode cX11_peek 11 = .ok (.iconst 1, 1) := by decide +kernel
theorem dX11_peek_12 : decode cX11_peek 12 = .ok (.goto 4, 3) := by decide +kernel
theorem dX11_peek_15 : decode cX11_peek 15 = .ok (.iconst 0, 1) := by decide +kernel
theorem dX11_peek_16 : decode cX11_peek 16 = .ok (.putfield 117, 3) := by decide +kernel
theorem dX11_peek_19 : decode cX11_peek 19 = .ok (.aload_n 0, 1) := by decide +kernel
theorem dX11_peek_20 : decode cX11_peek 20 = .ok (.getfield 117, 3) := by decide +kernel
theorem dX11_peek_23 : decode cX11_peek 23 = .ok (.ifCond .le 7, 3) := by decide +kernel
theorem dX11_peek_26 : decode cX11_peek 26 = .ok (.iconst 0, 1) := by decide +kernel
theorem dX11_peek_27 : decode cX11_peek 27 = .ok (.goto 9, 3) := by decide +kernel
theorem dX11_peek_30 : decode cX11_peek 30 = .ok (.aload_n 0, 1) := by decide +kernel
theorem dX11_peek_31 : decode cX11_peek 31 = .ok (.getfield 105, 3) := by decide +kernel
theorem dX11_peek_34 : decode cX11_peek 34 = .ok (.iload_n 1, 1) := by decide +kernel
theorem dX11_peek_35 : decode cX11_peek 35 = .ok (.iaload, 1) := by decide +kernel
theorem dX11_peek_36 : decode cX11_peek 36 = .ok (.ireturn, 1) := by decide +kernel
theorem dX11_stand_0 : decode cX11_stand 0 = .ok (.aload_n 0, 1) := by decide +kernel
theorem dX11_stand_1 : decode cX11_stand 1 = .ok (.aload_n 0, 1) := by decide +kernel
theorem dX11_stand_2 : decode cX11_stand 2 = .ok (.getfield 264, 3) := by decide +kernel
theorem dX11_stand_5 : decode cX11_stand 5 = .ok (.ifCond .le 7, 3) := by decide +kernel
theorem dX11_stand_8 : decode cX11_stand 8 = .ok (.iconst 0, 1) := by decide +kernel
theorem dX11_stand_9 : decode cX11_stand 9 = .ok (.goto 4, 3) := by decide +kernel
theorem dX11_stand_12 : decode cX11_stand 12 = .ok (.iconst (-1), 1) := by decide +kernel
theorem dX11_stand_13 : decode cX11_stand 13 = .ok (.putfield 333, 3) := by decide +kernel
theorem dX11_stand_16 : decode cX11_stand 16 = .ok (.aload_n 0, 1) := by decide +kernel
theorem dX11_stand_17 : decode cX11_stand 17 = .ok (.lconst 0, 1) := by decide +kernel
theorem dX11_stand_18 : decode cX11_stand 18 = .ok (.putfield 336, 3) := by decide +kernel
theorem dX11_stand_21 : decode cX11_stand 21 = .ok (.return_, 1) := by decide +kernel
theorem dX11_restart_0 : decode cX11_restart 0 = .ok (.aload_n 0, 1) := by decide +kernel
theorem dX11_restart_1 : decode cX11_restart 1 = .ok (.iconst 0, 1) := by decide +kernel
theorem dX11_restart_2 : decode cX11_restart 2 = .ok (.putfield 117, 3) := by decide +kernel
theorem dX11_restart_5 : decode cX11_restart 5 = .ok (.aload_n 0, 1) := by decide +kernel
theorem dX11_restart_6 : decode cX11_restart 6 = .ok (.invokevirtual 330, 3) := by decide +kernel
theorem dX11_restart_9 : decode cX11_restart 9 = .ok (.return_, 1) := by decide +kernel
theorem dX11_look_0 : decode cX11_look 0 = .ok (.iload_n 1, 1) := by decide +kernel
theorem dX11_look_1 : decode cX11_look 1 = .ok (.iconst 1, 1) := by decide +kernel
theorem dX11_look_2 : decode cX11_look 2 = .ok (.if_icmp .ne 7, 3) := by decide +kernel
theorem dX11_look_5 : decode cX11_look 5 = .ok (.iload_n 2, 1) := by decide +kernel
theorem dX11_look_6 : decode cX11_look 6 = .ok (.goto 32, 3) := by decide +kernel
theorem dX11_look_9 : decode cX11_look 9 = .ok (.iload_n 1, 1) := by decide +kernel
theorem dX11_look_10 : decode cX11_look 10 = .ok (.iconst 2, 1) := by decide +kernel
theorem dX11_look_11 : decode cX11_look 11 = .ok (.if_icmp .ne 12, 3) := by decide +kernel
theorem dX11_look_14 : decode cX11_look 14 = .ok (.aload_n 0, 1) := by decide +kernel
theorem dX11_look_15 : decode cX11_look 15 = .ok (.getfield 102, 3) := by decide +kernel
theorem dX11_look_18 : decode cX11_look 18 = .ok (.iload_n 2, 1) := by decide +kernel
theorem dX11_look_19 : decode cX11_look 19 = .ok (.iaload, 1) := by decide +kernel
theorem dX11_look_20 : decode cX11_look 20 = .ok (.goto 18, 3) := by decide +kernel
theorem dX11_look_23 : decode cX11_look 23 = .ok (.iload_n 1, 1) := by decide +kernel
theorem dX11_look_24 : decode cX11_look 24 = .ok (.iconst 3, 1) := by decide +kernel
theorem dX11_look_25 : decode cX11_look 25 = .ok (.if_icmp .ne 12, 3) := by decide +kernel
theorem dX11_look_28 : decode cX11_look 28 = .ok (.aload_n 0, 1) := by decide +kernel
theorem dX11_look_29 : decode cX11_look 29 = .ok (.getfield 108, 3) := by decide +kernel
theorem dX11_look_32 : decode cX11_look 32 = .ok (.iload_n 2, 1) := by decide +kernel
theorem dX11_look_33 : decode cX11_look 33 = .ok (.iaload, 1) := by decide +kernel
theorem dX11_look_34 : decode cX11_look 34 = .ok (.goto 4, 3) := by decide +kernel
theorem dX11_look_37 : decode cX11_look 37 = .ok (.iconst 0, 1) := by decide +kernel
theorem dX11_look_38 : decode cX11_look 38 = .ok (.ireturn, 1) := by decide +kernel
theorem dX11_doOperation_0 : decode cX11_doOperation 0 = .ok (.aload_n 0, 1) := by decide +kernel
theorem dX11_doOperation_1 : decode cX11_doOperation 1 = .ok (.aload_n 0, 1) := by decide +kernel
theorem dX11_doOperation_2 : decode cX11_doOperation 2 = .ok (.getfield 54, 3) := by decide +kernel
theorem dX11_doOperation_5 : decode cX11_doOperation 5 = .ok (.iconst 2, 1) := by decide +kernel
theorem dX11_doOperation_6 : decode cX11_doOperation 6 = .ok (.iload_n 1, 1) := by decide +kernel
theorem dX11_doOperation_7 : decode cX11_doOperation 7 = .ok (.imul, 1) := by decide +kernel
theorem dX11_doOperation_8 : decode cX11_doOperation 8 = .ok (.iaload, 1) := by decide +kernel
theorem dX11_doOperation_9 : decode cX11_doOperation 9 = .ok (.aload_n 0, 1) := by decide +kernel
theorem dX11_doOperation_10 : decode cX11_doOperation 10 = .ok (.getfield 57, 3) := by decide +kernel
theorem dX11_doOperation_13 : decode cX11_doOperation 13 = .ok (.iconst 2, 1) := by decide +kernel
theorem dX11_doOperation_14 : decode cX11_doOperation 14 = .ok (.iload_n 1, 1) := by decide +kernel
theorem dX11_doOperation_15 : decode cX11_doOperation 15 = .ok (.imul, 1) := by decide +kernel
theorem dX11_doOperation_16 : decode cX11_doOperation 16 = .ok (.iaload, 1) := by decide +kernel
theorem dX11_doOperation_17 : decode cX11_doOperation 17 = .ok (.invokevirtual 340, 3) := by decide +kernel
theorem dX11_doOperation_20 : decode cX11_doOperation 20 = .ok (.istore_n 2, 1) := by decide +kernel
theorem dX11_doOperation_21 : decode cX11_doOperation 21 = .ok (.aload_n 0, 1) := by decide +kernel
theorem dX11_doOperation_22 : decode cX11_doOperation 22 = .ok (.aload_n 0, 1) := by decide +kernel
theorem dX11_doOperation_23 : decode cX11_doOperation 23 = .ok (.getfield 54, 3) := by decide +kernel
theorem dX11_doOperation_26 : decode cX11_doOperation 26 = .ok (.iconst 2, 1) := by decide +kernel
theorem dX11_doOperation_27 : decode cX11_doOperation 27 = .ok (.iload_n 1, 1) := by decide +kernel
theorem dX11_doOperation_28 : decode cX11_doOperation 28 = .ok (.imul, 1) := by decide +kernel
theorem dX11_doOperation_29 : decode cX11_doOperation 29 = .ok (.iconst 1, 1) := by decide +kernel
theorem dX11_doOperation_30 : decode cX11_doOperation 30 = .ok (.iadd, 1) := by decide +kernel
theorem dX11_doOperation_31 : decode cX11_doOperation 31 = .ok (.iaload, 1) := by decide +kernel
theorem dX11_doOperation_32 : decode cX11_doOperation 32 = .ok (.aload_n 0, 1) := by decide +kernel
theorem dX11_doOperation_33 : decode cX11_doOperation 33 = .ok (.getfield 57, 3) := by decide +kernel
theorem dX11_doOperation_36 : decode cX11_doOperation 36 = .ok (.iconst 2, 1) := by decide +kernel
theorem dX11_doOperation_37 : decode cX11_doOperation 37 = .ok (.iload_n 1, 1) := by decide +kernel
theorem dX11_doOperation_38 : decode cX11_doOperation 38 = .ok (.imul, 1) := by decide +kernel
theorem dX11_doOperation_39 : decode cX11_doOperation 39 = .ok (.iconst 1, 1) := by decide +kernel
theorem dX11_doOperation_40 : decode cX11_doOperation 40 = .ok (.iadd, 1) := by decide +kernel
theorem dX11_doOperation_41 : decode cX11_doOperation 41 = .ok (.iaload, 1) := by decide +kernel
theorem dX11_doOperation_42 : decode cX11_doOperation 42 = .ok (.invokevirtual 340, 3) := by decide +kernel
theorem dX11_doOperation_45 : decode cX11_doOperation 45 = .ok (.istore_n 3, 1) := by decide +kernel
theorem dX11_doOperation_46 : decode cX11_doOperation 46 = .ok (.aload_n 0, 1) := by decide +kernel
theorem dX11_doOperation_47 : decode cX11_doOperation 47 = .ok (.getfield 51, 3) := by decide +kernel
theorem dX11_doOperation_50 : decode cX11_doOperation 50 = .ok (.iload_n 1, 1) := by decide +kernel
theorem dX11_doOperation_51 : decode cX11_doOperation 51 = .ok (.iaload, 1) := by decide +kernel
theorem dX11_doOperation_52 : decode cX11_doOperation 52 = .ok (.tableswitch 149 0 6 #[44, 56, 68, 80, 99, 118, 136], 44) := by decide +kernel
theorem dX11_doOperation_96 : decode cX11_doOperation 96 = .ok (.aload_n 0, 1) := by decide +kernel
theorem dX11_doOperation_97 : decode cX11_doOperation 97 = .ok (.getfield 108, 3) := by decide +kernel
theorem dX11_doOperation_100 : decode cX11_doOperation 100 = .ok (.iload_n 1, 1) := by decide +kernel
theorem dX11_doOperation_101 : decode cX11_doOperation 101 = .ok (.iload_n 2, 1) := by decide +kernel
theorem dX11_doOperation_102 : decode cX11_doOperation 102 = .ok (.iload_n 3, 1) := by decide +kernel
theorem dX11_doOperation_103 : decode cX11_doOperation 103 = .ok (.iadd, 1) := by decide +kernel
theorem dX11_doOperation_104 : decode cX11_doOperation 104 = .ok (.iastore, 1) := by decide +kernel
theorem dX11_doOperation_105 : decode cX11_doOperation 105 = .ok (.goto 103, 3) := by decide +kernel
theorem dX11_doOperation_108 : decode cX11_doOperation 108 = .ok (.aload_n 0, 1) := by decide +kernel
theorem dX11_doOperation_109 : decode cX11_doOperation 109 = .ok (.getfield 108, 3) := by decide +kernel
theorem dX11_doOperation_112 : decode cX11_doOperation 112 = .ok (.iload_n 1, 1) := by decide +kernel
theorem dX11_doOperation_113 : decode cX11_doOperation 113 = .ok (.iload_n 2, 1) := by decide +kernel
theorem dX11_doOperation_114 : decode cX11_doOperation 114 = .ok (.iload_n 3, 1) := by decide +kernel
theorem dX11_doOperation_115 : decode cX11_doOperation 115 = .ok (.isub, 1) := by decide +kernel
theorem dX11_doOperation_116 : decode cX11_doOperation 116 = .ok (.iastore, 1) := by decide +kernel
theorem dX11_doOperation_117 : decode cX11_doOperation 117 = .ok (.goto 91, 3) := by decide +kernel
theorem dX11_doOperation_120 : decode cX11_doOperation 120 = .ok (.aload_n 0, 1) := by decide +kernel
theorem dX11_doOperation_121 : decode cX11_doOperation 121 = .ok (.getfield 108, 3) := by decide +kernel
theorem dX11_doOperation_124 : decode cX11_doOperation 124 = .ok (.iload_n 1, 1) := by decide +kernel
theorem dX11_doOperation_125 : decode cX11_doOperation 125 = .ok (.iload_n 2, 1) := by decide +kernel
theorem dX11_doOperation_126 : decode cX11_doOperation 126 = .ok (.iload_n 3, 1) := by decide +kernel
theorem dX11_doOperation_127 : decode cX11_doOperation 127 = .ok (.imul, 1) := by decide +kernel
theorem dX11_doOperation_128 : decode cX11_doOperation 128 = .ok (.iastore, 1) := by decide +kernel
theorem dX11_doOperation_129 : decode cX11_doOperation 129 = .ok (.goto 79, 3) := by decide +kernel
theorem dX11_doOperation_132 : decode cX11_doOperation 132 = .ok (.aload_n 0, 1) := by decide +kernel
theorem dX11_doOperation_133 : decode cX11_doOperation 133 = .ok (.getfield 108, 3) := by decide +kernel
theorem dX11_doOperation_136 : decode cX11_doOperation 136 = .ok (.iload_n 1, 1) := by decide +kernel
theorem dX11_doOperation_137 : decode cX11_doOperation 137 = .ok (.iload_n 2, 1) := by decide +kernel
theorem dX11_doOperation_138 : decode cX11_doOperation 138 = .ok (.iload_n 3, 1) := by decide +kernel
theorem dX11_doOperation_139 : decode cX11_doOperation 139 = .ok (.if_icmp .ge 7, 3) := by decide +kernel
theorem dX11_doOperation_142 : decode cX11_doOperation 142 = .ok (.iconst 1, 1) := by decide +kernel
theorem dX11_doOperation_143 : decode cX11_doOperation 143 = .ok (.goto 4, 3) := by decide +kernel
theorem dX11_doOperation_146 : decode cX11_doOperation 146 = .ok (.iconst 0, 1) := by decide +kernel
theorem dX11_doOperation_147 : decode cX11_doOperation 147 = .ok (.iastore, 1) := by decide +kernel
theorem dX11_doOperation_148 : decode cX11_doOperation 148 = .ok (.goto 60, 3) := by decide +kernel
theorem dX11_doOperation_151 : decode cX11_doOperation 151 = .ok (.aload_n 0, 1) := by decide +kernel
theorem dX11_doOperation_152 : decode cX11_doOperation 152 = .ok (.getfield 108, 3) := by decide +kernel
theorem dX11_doOperation_155 : decode cX11_doOperation 155 = .ok (.iload_n 1, 1) := by decide +kernel
theorem dX11_doOperation_156 : decode cX11_doOperation 156 = .ok (.iload_n 2, 1) := by decide +kernel
theorem dX11_doOperation_157 : decode cX11_doOperation 157 = .ok (.iload_n 3, 1) := by decide +kernel
theorem dX11_doOperation_158 : decode cX11_doOperation 158 = .ok (.if_icmp .ne 7, 3) := by decide +kernel
theorem dX11_doOperation_161 : decode cX11_doOperation 161 = .ok (.iconst 1, 1) := by decide +kernel
theorem dX11_doOperation_162 : decode cX11_doOperation 162 = .ok (.goto 4, 3) := by decide +kernel
theorem dX11_doOperation_165 : decode cX11_doOperation 165 = .ok (.iconst 0, 1) := by decide +kernel
theorem dX11_doOperation_166 : decode cX11_doOperation 166 = .ok (.iastore, 1) := by decide +kernel
theorem dX11_doOperation_167 : decode cX11_doOperation 167 = .ok (.goto 41, 3) := by decide +kernel
theorem dX11_doOperation_170 : decode cX11_doOperation 170 = .ok (.aload_n 0, 1) := by decide +kernel
theorem dX11_doOperation_171 : decode cX11_doOperation 171 = .ok (.getfield 108, 3) := by decide +kernel
theorem dX11_doOperation_174 : decode cX11_doOperation 174 = .ok (.iload_n 1, 1) := by decide +kernel
theorem dX11_doOperation_175 : decode cX11_doOperation 175 = .ok (.aload_n 0, 1) := by decide +kernel
theorem dX11_doOperation_176 : decode cX11_doOperation 176 = .ok (.getfield 105, 3) := by decide +kernel
theorem dX11_doOperation_179 : decode cX11_doOperation 179 = .ok (.iload_n 2, 1) := by decide +kernel
theorem dX11_doOperation_180 : decode cX11_doOperation 180 = .ok (.bipush 15, 2) := by decide +kernel
theorem dX11_doOperation_182 : decode cX11_doOperation 182 = .ok (.iand, 1) := by decide +kernel
theorem dX11_doOperation_183 : decode cX11_doOperation 183 = .ok (.iaload, 1) := by decide +kernel
theorem dX11_doOperation_184 : decode cX11_doOperation 184 = .ok (.iastore, 1) := by decide +kernel
theorem dX11_doOperation_185 : decode cX11_doOperation 185 = .ok (.goto 23, 3) := by decide +kernel
theorem dX11_doOperation_188 : decode cX11_doOperation 188 = .ok (.aload_n 0, 1) := by decide +kernel
theorem dX11_doOperation_189 : decode cX11_doOperation 189 = .ok (.getfield 105, 3) := by decide +kernel
theorem dX11_doOperation_192 : decode cX11_doOperation 192 = .ok (.iload_n 2, 1) := by decide +kernel
theorem dX11_doOperation_193 : decode cX11_doOperation 193 = .ok (.bipush 15, 2) := by decide +kernel
theorem dX11_doOperation_195 : decode cX11_doOperation 195 = .ok (.iand, 1) := by decide +kernel
theorem dX11_doOperation_196 : decode cX11_doOperation 196 = .ok (.iload_n 3, 1) := by decide +kernel
theorem dX11_doOperation_197 : decode cX11_doOperation 197 = .ok (.iastore, 1) := by decide +kernel
theorem dX11_doOperation_198 : decode cX11_doOperation 198 = .ok (.goto 10, 3) := by decide +kernel
theorem dX11_doOperation_201 : decode cX11_doOperation 201 = .ok (.aload_n 0, 1) := by decide +kernel
theorem dX11_doOperation_202 : decode cX11_doOperation 202 = .ok (.getfield 108, 3) := by decide +kernel
theorem dX11_doOperation_205 : decode cX11_doOperation 205 = .ok (.iload_n 1, 1) := by decide +kernel
theorem dX11_doOperation_206 : decode cX11_doOperation 206 = .ok (.iload_n 2, 1) := by decide +kernel
theorem dX11_doOperation_207 : decode cX11_doOperation 207 = .ok (.iastore, 1) := by decide +kernel
theorem dX11_doOperation_208 : decode cX11_doOperation 208 = .ok (.aload_n 0, 1) := by decide +kernel
theorem dX11_doOperation_209 : decode cX11_doOperation 209 = .ok (.getfield 60, 3) := by decide +kernel
theorem dX11_doOperation_212 : decode cX11_doOperation 212 = .ok (.iload_n 1, 1) := by decide +kernel
theorem dX11_doOperation_213 : decode cX11_doOperation 213 = .ok (.iaload, 1) := by decide +kernel
theorem dX11_doOperation_214 : decode cX11_doOperation 214 = .ok (.ifCond .lt 20, 3) := by decide +kernel
theorem dX11_doOperation_217 : decode cX11_doOperation 217 = .ok (.aload_n 0, 1) := by decide +kernel
theorem dX11_doOperation_218 : decode cX11_doOperation 218 = .ok (.getfield 102, 3) := by decide +kernel
theorem dX11_doOperation_221 : decode cX11_doOperation 221 = .ok (.aload_n 0, 1) := by decide +kernel
theorem dX11_doOperation_222 : decode cX11_doOperation 222 = .ok (.getfield 60, 3) := by decide +kernel
theorem dX11_doOperation_225 : decode cX11_doOperation 225 = .ok (.iload_n 1, 1) := by decide +kernel
theorem dX11_doOperation_226 : decode cX11_doOperation 226 = .ok (.iaload, 1) := by decide +kernel
theorem dX11_doOperation_227 : decode cX11_doOperation 227 = .ok (.aload_n 0, 1) := by decide +kernel
theorem dX11_doOperation_228 : decode cX11_doOperation 228 = .ok (.getfield 108, 3) := by decide +kernel
theorem dX11_doOperation_231 : decode cX11_doOperation 231 = .ok (.iload_n 1, 1) := by decide +kernel
theorem dX11_doOperation_232 : decode cX11_doOperation 232 = .ok (.iaload, 1) := by decide +kernel
theorem dX11_doOperation_233 : decode cX11_doOperation 233 = .ok (.iastore, 1) := by decide +kernel
theorem dX11_doOperation_234 : decode cX11_doOperation 234 = .ok (.return_, 1) := by decide +kernel
theorem dX11_run_0 : decode cX11_run 0 = .ok (.aload_n 0, 1) := by decide +kernel
theorem dX11_run_1 : decode cX11_run 1 = .ok (.iload_n 1, 1) := by decide +kernel
theorem dX11_run_2 : decode cX11_run 2 = .ok (.ifCond .lt 10, 3) := by decide +kernel
theorem dX11_run_5 : decode cX11_run 5 = .ok (.iload_n 1, 1) := by decide +kernel
theorem dX11_run_6 : decode cX11_run 6 = .ok (.sipush 5000, 3) := by decide +kernel
theorem dX11_run_9 : decode cX11_run 9 = .ok (.if_icmp .le 7, 3) := by decide +kernel
theorem dX11_run_12 : decode cX11_run 12 = .ok (.iconst 1, 1) := by decide +kernel
theorem dX11_run_13 : decode cX11_run 13 = .ok (.goto 4, 3) := by decide +kernel
theorem dX11_run_16 : decode cX11_run 16 = .ok (.iconst 0, 1) := by decide +kernel
theorem dX11_run_17 : decode cX11_run 17 = .ok (.putfield 117, 3) := by decide +kernel
theorem dX11_run_20 : decode cX11_run 20 = .ok (.iconst 0, 1) := by decide +kernel
theorem dX11_run_21 : decode cX11_run 21 = .ok (.istore_n 2, 1) := by decide +kernel
theorem dX11_run_22 : decode cX11_run 22 = .ok (.aload_n 0, 1) := by decide +kernel
theorem dX11_run_23 : decode cX11_run 23 = .ok (.getfield 117, 3) := by decide +kernel
theorem dX11_run_26 : decode cX11_run 26 = .ok (.ifCond .ne 136, 3) := by decide +kernel
theorem dX11_run_29 : decode cX11_run 29 = .ok (.aload_n 0, 1) := by decide +kernel
theorem dX11_run_30 : decode cX11_run 30 = .ok (.getfield 333, 3) := by decide +kernel
theorem dX11_run_33 : decode cX11_run 33 = .ok (.ifCond .lt 129, 3) := by decide +kernel
theorem dX11_run_36 : decode cX11_run 36 = .ok (.iload_n 2, 1) := by decide +kernel
theorem dX11_run_37 : decode cX11_run 37 = .ok (.iload_n 1, 1) := by decide +kernel
theorem dX11_run_38 : decode cX11_run 38 = .ok (.if_icmp .ge 124, 3) := by decide +kernel
theorem dX11_run_41 : decode cX11_run 41 = .ok (.iconst 0, 1) := by decide +kernel
theorem dX11_run_42 : decode cX11_run 42 = .ok (.istore_n 3, 1) := by decide +kernel
theorem dX11_run_43 : decode cX11_run 43 = .ok (.iload_n 3, 1) := by decide +kernel
theorem dX11_run_44 : decode cX11_run 44 = .ok (.aload_n 0, 1) := by decide +kernel
theorem dX11_run_45 : decode cX11_run 45 = .ok (.getfield 261, 3) := by decide +kernel
theorem dX11_run_48 : decode cX11_run 48 = .ok (.if_icmp .ge 27, 3) := by decide +kernel
theorem dX11_run_51 : decode cX11_run 51 = .ok (.aload_n 0, 1) := by decide +kernel
theorem dX11_run_52 : decode cX11_run 52 = .ok (.getfield 63, 3) := by decide +kernel
theorem dX11_run_55 : decode cX11_run 55 = .ok (.iload_n 3, 1) := by decide +kernel
theorem dX11_run_56 : decode cX11_run 56 = .ok (.iaload, 1) := by decide +kernel
theorem dX11_run_57 : decode cX11_run 57 = .ok (.aload_n 0, 1) := by decide +kernel
theorem dX11_run_58 : decode cX11_run 58 = .ok (.getfield 333, 3) := by decide +kernel
theorem dX11_run_61 : decode cX11_run 61 = .ok (.if_icmp .ne 8, 3) := by decide +kernel
theorem dX11_run_64 : decode cX11_run 64 = .ok (.aload_n 0, 1) := by decide +kernel
theorem dX11_run_65 : decode cX11_run 65 = .ok (.iload_n 3, 1) := by decide +kernel
theorem dX11_run_66 : decode cX11_run 66 = .ok (.invokevirtual 344, 3) := by decide +kernel
theorem dX11_run_69 : decode cX11_run 69 = .ok (.iinc 3 1, 3) := by decide +kernel
theorem dX11_run_72 : decode cX11_run 72 = .ok (.goto (-29), 3) := by decide +kernel
theorem dX11_run_75 : decode cX11_run 75 = .ok (.iload_n 2, 1) := by decide +kernel
theorem dX11_run_76 : decode cX11_run 76 = .ok (.aload_n 0, 1) := by decide +kernel
theorem dX11_run_77 : decode cX11_run 77 = .ok (.getfield 99, 3) := by decide +kernel
theorem dX11_run_80 : decode cX11_run 80 = .ok (.aload_n 0, 1) := by decide +kernel
theorem dX11_run_81 : decode cX11_run 81 = .ok (.getfield 333, 3) := by decide +kernel
theorem dX11_run_84 : decode cX11_run 84 = .ok (.iaload, 1) := by decide +kernel
theorem dX11_run_85 : decode cX11_run 85 = .ok (.iadd, 1) := by decide +kernel
theorem dX11_run_86 : decode cX11_run 86 = .ok (.istore_n 2, 1) := by decide +kernel
theorem dX11_run_87 : decode cX11_run 87 = .ok (.aload_n 0, 1) := by decide +kernel
theorem dX11_run_88 : decode cX11_run 88 = .ok (.getfield 78, 3) := by decide +kernel
theorem dX11_run_91 : decode cX11_run 91 = .ok (.aload_n 0, 1) := by decide +kernel
theorem dX11_run_92 : decode cX11_run 92 = .ok (.getfield 333, 3) := by decide +kernel
theorem dX11_run_95 : decode cX11_run 95 = .ok (.baload, 1) := by decide +kernel
theorem dX11_run_96 : decode cX11_run 96 = .ok (.ifCond .eq 28, 3) := by decide +kernel
theorem dX11_run_99 : decode cX11_run 99 = .ok (.aload_n 0, 1) := by decide +kernel
theorem dX11_run_100 : decode cX11_run 100 = .ok (.aload_n 0, 1) := by decide +kernel
theorem dX11_run_101 : decode cX11_run 101 = .ok (.getfield 66, 3) := by decide +kernel
theorem dX11_run_104 : decode cX11_run 104 = .ok (.aload_n 0, 1) := by decide +kernel
theorem dX11_run_105 : decode cX11_run 105 = .ok (.getfield 333, 3) := by decide +kernel
theorem dX11_run_108 : decode cX11_run 108 = .ok (.iaload, 1) := by decide +kernel
theorem dX11_run_109 : decode cX11_run 109 = .ok (.aload_n 0, 1) := by decide +kernel
theorem dX11_run_110 : decode cX11_run 110 = .ok (.getfield 69, 3) := by decide +kernel
theorem dX11_run_113 : decode cX11_run 113 = .ok (.aload_n 0, 1) := by decide +kernel
theorem dX11_run_114 : decode cX11_run 114 = .ok (.getfield 333, 3) := by decide +kernel
theorem dX11_run_117 : decode cX11_run 117 = .ok (.iaload, 1) := by decide +kernel
theorem dX11_run_118 : decode cX11_run 118 = .ok (.invokevirtual 340, 3) := by decide +kernel
theorem dX11_run_121 : decode cX11_run 121 = .ok (.ifCond .eq 7, 3) := by decide +kernel
theorem dX11_run_124 : decode cX11_run 124 = .ok (.iconst 1, 1) := by decide +kernel
theorem dX11_run_125 : decode cX11_run 125 = .ok (.goto 4, 3) := by decide +kernel
theorem dX11_run_128 : decode cX11_run 128 = .ok (.iconst 0, 1) := by decide +kernel
theorem dX11_run_129 : decode cX11_run 129 = .ok (.istore_n 3, 1) := by decide +kernel
theorem dX11_run_130 : decode cX11_run 130 = .ok (.aload_n 0, 1) := by decide +kernel
theorem dX11_run_131 : decode cX11_run 131 = .ok (.iload_n 3, 1) := by decide +kernel
theorem dX11_run_132 : decode cX11_run 132 = .ok (.ifCond .eq 15, 3) := by decide +kernel
theorem dX11_run_135 : decode cX11_run 135 = .ok (.aload_n 0, 1) := by decide +kernel
theorem dX11_run_136 : decode cX11_run 136 = .ok (.getfield 72, 3) := by decide +kernel
theorem dX11_run_139 : decode cX11_run 139 = .ok (.aload_n 0, 1) := by decide +kernel
theorem dX11_run_140 : decode cX11_run 140 = .ok (.getfield 333, 3) := by decide +kernel
theorem dX11_run_143 : decode cX11_run 143 = .ok (.iaload, 1) := by decide +kernel
theorem dX11_run_144 : decode cX11_run 144 = .ok (.goto 12, 3) := by decide +kernel
theorem dX11_run_147 : decode cX11_run 147 = .ok (.aload_n 0, 1) := by decide +kernel
theorem dX11_run_148 : decode cX11_run 148 = .ok (.getfield 75, 3) := by decide +kernel
theorem dX11_run_151 : decode cX11_run 151 = .ok (.aload_n 0, 1) := by decide +kernel
theorem dX11_run_152 : decode cX11_run 152 = .ok (.getfield 333, 3) := by decide +kernel
theorem dX11_run_155 : decode cX11_run 155 = .ok (.iaload, 1) := by decide +kernel
theorem dX11_run_156 : decode cX11_run 156 = .ok (.putfield 333, 3) := by decide +kernel
theorem dX11_run_159 : decode cX11_run 159 = .ok (.goto (-137), 3) := by decide +kernel
theorem dX11_run_162 : decode cX11_run 162 = .ok (.aload_n 0, 1) := by decide +kernel
theorem dX11_run_163 : decode cX11_run 163 = .ok (.aload_n 0, 1) := by decide +kernel
theorem dX11_run_164 : decode cX11_run 164 = .ok (.getfield 336, 3) := by decide +kernel
theorem dX11_run_167 : decode cX11_run 167 = .ok (.iload_n 2, 1) := by decide +kernel
theorem dX11_run_168 : decode cX11_run 168 = .ok (.i2l, 1) := by decide +kernel
theorem dX11_run_169 : decode cX11_run 169 = .ok (.ladd, 1) := by decide +kernel
theorem dX11_run_170 : decode cX11_run 170 = .ok (.putfield 336, 3) := by decide +kernel
theorem dX11_run_173 : decode cX11_run 173 = .ok (.iload_n 2, 1) := by decide +kernel
theorem dX11_run_174 : decode cX11_run 174 = .ok (.ireturn, 1) := by decide +kernel
theorem dX11_at_0 : decode cX11_at 0 = .ok (.aload_n 0, 1) := by decide +kernel
theorem dX11_at_1 : decode cX11_at 1 = .ok (.iconst 0, 1) := by decide +kernel
theorem dX11_at_2 : decode cX11_at 2 = .ok (.putfield 117, 3) := by decide +kernel
theorem dX11_at_5 : decode cX11_at 5 = .ok (.aload_n 0, 1) := by decide +kernel
theorem dX11_at_6 : decode cX11_at 6 = .ok (.getfield 333, 3) := by decide +kernel
theorem dX11_at_9 : decode cX11_at 9 = .ok (.ireturn, 1) := by decide +kernel
theorem dX11_cycles_0 : decode cX11_cycles 0 = .ok (.aload_n 0, 1) := by decide +kernel
theorem dX11_cycles_1 : decode cX11_cycles 1 = .ok (.iconst 0, 1) := by decide +kernel
theorem dX11_cycles_2 : decode cX11_cycles 2 = .ok (.putfield 117, 3) := by decide +kernel
theorem dX11_cycles_5 : decode cX11_cycles 5 = .ok (.aload_n 0, 1) := by decide +kernel
theorem dX11_cycles_6 : decode cX11_cycles 6 = .ok (.getfield 336, 3) := by decide +kernel
theorem dX11_cycles_9 : decode cX11_cycles 9 = .ok (.lreturn, 1) := by decide +kernel
end
section
/-! ===== THE WORDS: the good words of the tables, as one list that every method's contract has ===== -/
def gtbl : List Cond := lw_tbl.filter goodWord
theorem gt_in {w : Cond} (i : Nat) (h : lw_tbl[i]? = some w) (hg : goodWord w = true) : w ∈ gtbl := List.mem_filter.mpr ⟨List.mem_of_getElem? h, hg⟩
theorem gt_tbl {w : Cond} (h : w ∈ gtbl) : w ∈ lw_tbl := (List.mem_filter.mp h).1
theorem gt_good {c1 : Cond} {ws : List Cond} (hs : ∀ w ∈ gtbl, w ∈ ws) (h1 : c1 ∈ gtbl) : GoodIn ws (c1 :: gtbl) := by
  intro w hw
  have h : w ∈ gtbl := (List.mem_cons.mp hw).elim (fun e => by rw [e]; exact h1) id
  exact ⟨hs w h, good_of_word (List.mem_filter.mp h).2⟩
/-! ===== THE MEMORY: ints, references (to things of a known kind) and longs, by kind, index and place ===== -/
abbrev Mem : Type := (Nat → Nat → Nat → Int32) × (Nat → Nat → Nat → Option Nat) × (Nat → Nat → Int64)
def gI (m : Mem) (k i j : Nat) : Int32 := m.1 k i j
def gR (m : Mem) (k i j : Nat) : Option Nat := m.2.1 k i j
def gL (m : Mem) (k i : Nat) : Int64 := m.2.2 k i
def sI (m : Mem) (k i j : Nat) (v : Int32) : Mem := (fun a b c => if a = k ∧ b = i ∧ c = j then v else m.1 a b c, m.2.1, m.2.2)
def sR (m : Mem) (k i j : Nat) (v : Option Nat) : Mem := (m.1, fun a b c => if a = k ∧ b = i ∧ c = j then v else m.2.1 a b c, m.2.2)
def sL (m : Mem) (k i : Nat) (v : Int64) : Mem := (m.1, m.2.1, fun a b => if a = k ∧ b = i then v else m.2.2 a b)
theorem gI_sI (m : Mem) (k i j : Nat) (v : Int32) (a b c : Nat) : gI (sI m k i j v) a b c = if a = k ∧ b = i ∧ c = j then v else gI m a b c := rfl
theorem gI_sR (m : Mem) (k i j : Nat) (v : Option Nat) (a b c : Nat) : gI (sR m k i j v) a b c = gI m a b c := rfl
theorem gI_sL (m : Mem) (k i : Nat) (v : Int64) (a b c : Nat) : gI (sL m k i v) a b c = gI m a b c := rfl
theorem gR_sI (m : Mem) (k i j : Nat) (v : Int32) (a b c : Nat) : gR (sI m k i j v) a b c = gR m a b c := rfl
theorem gR_sR (m : Mem) (k i j : Nat) (v : Option Nat) (a b c : Nat) : gR (sR m k i j v) a b c = if a = k ∧ b = i ∧ c = j then v else gR m a b c := rfl
theorem gR_sL (m : Mem) (k i : Nat) (v : Int64) (a b c : Nat) : gR (sL m k i v) a b c = gR m a b c := rfl
theorem gL_sI (m : Mem) (k i j : Nat) (v : Int32) (a b : Nat) : gL (sI m k i j v) a b = gL m a b := rfl
theorem gL_sR (m : Mem) (k i j : Nat) (v : Option Nat) (a b : Nat) : gL (sR m k i j v) a b = gL m a b := rfl
theorem gL_sL (m : Mem) (k i : Nat) (v : Int64) (a b : Nat) : gL (sL m k i v) a b = if a = k ∧ b = i then v else gL m a b := rfl
/-- an index within a row -/
def ix (i : Int32) (n : Nat) : Option Nat := if i < 0 ∨ n ≤ i.toNatClampNeg then none else some i.toNatClampNeg
theorem ix_in {i : Int32} {n k : Nat} (h : ix i n = some k) : vp_in i n := by
  unfold ix at h
  split at h
  · cases h
  · assumption
theorem ix_eq {i : Int32} {n k : Nat} (h : ix i n = some k) : i.toNatClampNeg = k := by
  unfold ix at h
  split at h
  · cases h
  · exact Option.some.inj h
theorem ix_lt {i : Int32} {n k : Nat} (h : ix i n = some k) : k < n := by
  have h1 := ix_in h
  have h2 := ix_eq h
  unfold vp_in at h1
  omega
theorem ix_nI {n N : Nat} (h : n < N) (hN : N < 2 ^ 31) : ix (nI n) N = some n := by
  unfold ix
  rw [if_neg (nI_in h hN), nI_clamp (by omega)]
def lt9 {α β : Type} (a : α) (f : α → Option β) : Option β := f a
theorem lt9_some {α β : Type} {a : α} {f : α → Option β} {r : β} (h : lt9 a f = some r) : ∃ x, x = a ∧ f x = some r := ⟨a, rfl, h⟩
theorem bd_some {α β : Type} {a : Option α} {f : α → Option β} {r : β} (h : a.bind f = some r) : ∃ x, a = some x ∧ f x = some r := Option.bind_eq_some_iff.mp h
theorem ck_some {β : Type} {c : Prop} [Decidable c] {a : Option β} {r : β} (h : (if c then a else none) = some r) : c ∧ a = some r := by
  by_cases hc : c
  · rw [if_pos hc] at h
    exact ⟨hc, h⟩
  · rw [if_neg hc] at h
    cases h
/-! ===== THE WORLD: which cell holds what of the memory ===== -/
/-- the addresses of the things, the classes of the rows (ints, booleans, operations, blocks, longs), the addresses of the written texts and of their bytes -/
abbrev gE : Type := (Nat → Nat → Nat) × ClassId × ClassId × ClassId × ClassId × ClassId × (Nat → Nat) × (Nat → Nat)
/-- a field's value: 0 an int, 1 a long, 1000 + k the one thing of kind k with the same index, 2000 + k null or a thing of kind k -/
def fval (e : gE) (m : Mem) (k i j t : Nat) : Value :=
  if t = 0 then .int (gI m k i j) else if t = 1 then .long (gL m k i) else if t < 2000 then .ref (e.1 (t - 1000) i) else va_rf ((gR m k i j).map (e.1 (t - 2000)))
def fvals (e : gE) (m : Mem) (k i : Nat) : Nat → List Nat → List Value
  | _, [] => []
  | j, t :: ts => fval e m k i j t :: fvals e m k i (j + 1) ts
/-- the fields of a kind of objects -/
def gly : Nat → List Nat
  | 0 => [0, 0, 0, 0, 0, 0, 0]
  | 1 => [1023, 1024, 1025, 1026, 1027, 0]
  | 2 => [1028, 1029, 1030, 2004, 0, 1]
  | 3 => [0, 0, 0, 0, 0, 0, 0, 0, 0, 0, 0, 0, 0, 0, 0]
  | 4 => [1031, 1032, 0, 0]
  | 5 => [1006, 0]
  | 6 => [1020, 0]
  | 7 => [1005, 1008, 2004, 0, 0, 0, 0]
  | 8 => [1021, 1022, 0, 2004, 2000, 0]
  | 9 => [1006, 1007, 1001, 1002, 2004, 2004]
  | _ => [0, 1101, 0, 0, 0, 0, 0, 0, 0, 0, 0, 1111, 1112, 1113, 1114, 1115, 0, 1117, 1118, 1119, 1120, 1121, 0, 1123, 0, 0, 1126, 1127, 1128, 1129, 1130, 0, 1132, 1133, 1134, 1135, 1136, 1137, 1138, 1139, 1140, 1141, 1142, 1143, 1144, 1145, 1146, 0, 1, 0, 1150]
/-- the rows: what they hold (0 ints, 1 booleans, 2 operations or null, 3 all operations of a program, 4 all its blocks), and their length -/
def garr : Nat → Nat × Nat
  | 20 => (0, 700)
  | 21 => (0, 350)
  | 22 => (0, 350)
  | 23 => (0, 3)
  | 24 => (0, 4)
  | 25 => (0, 12)
  | 26 => (0, 200)
  | 27 => (2, 200)
  | 28 => (0, 8)
  | 29 => (0, 16)
  | 30 => (0, 200)
  | 31 => (3, 200)
  | 32 => (4, 175)
  | 101 => (0, 700)
  | 111 => (0, 200)
  | 112 => (0, 400)
  | 113 => (0, 400)
  | 114 => (0, 200)
  | 115 => (0, 200)
  | 117 => (0, 800)
  | 118 => (0, 800)
  | 119 => (0, 800)
  | 120 => (0, 800)
  | 121 => (1, 800)
  | 123 => (0, 1600)
  | 126 => (0, 200)
  | 127 => (0, 400)
  | 128 => (0, 400)
  | 129 => (0, 200)
  | 130 => (0, 200)
  | 132 => (0, 800)
  | 133 => (0, 800)
  | 134 => (0, 800)
  | 135 => (0, 800)
  | 136 => (1, 800)
  | 137 => (0, 3)
  | 138 => (0, 4)
  | 139 => (0, 200)
  | 140 => (0, 200)
  | 141 => (0, 200)
  | 142 => (0, 200)
  | 143 => (0, 800)
  | 144 => (0, 8)
  | 145 => (0, 16)
  | 146 => (0, 200)
  | 150 => (0, 200)
  | _ => (9, 0)
def gcell (e : gE) (m : Mem) (k i : Nat) : va_E :=
  if k < 20 then .inr (k, fvals e m k i 0 (gly k))
  else if (garr k).1 = 0 then .inl (e.2.1, (garr k).2, .inl (gI m k i))
  else if (garr k).1 = 1 then .inl (e.2.2.1, (garr k).2, .inl (gI m k i))
  else if (garr k).1 = 2 then .inl (e.2.2.2.1, (garr k).2, .inr (.inr (.inr (.inr (fun j => (gR m k i j).map (e.1 3))))))
  else if (garr k).1 = 3 then .inl (e.2.2.2.1, (garr k).2, .inr (.inr (.inr (.inr (fun j => some (e.1 3 (200 * i + j)))))))
  else .inl (e.2.2.2.2.1, (garr k).2, .inr (.inr (.inr (.inr (fun j => some (e.1 0 (175 * i + j)))))))
theorem fvals_congr {e : gE} {m m' : Mem} {k i : Nat} (h1 : ∀ j, gI m' k i j = gI m k i j) (h2 : ∀ j, gR m' k i j = gR m k i j) (h3 : gL m' k i = gL m k i) : ∀ (ts : List Nat) (j : Nat), fvals e m' k i j ts = fvals e m k i j ts
  | [], _ => rfl
  | t :: ts, j => by
    rw [fvals, fvals, fvals_congr h1 h2 h3 ts (j + 1)]
    congr 1
    unfold fval
    rw [h1, h2, h3]
theorem gcell_congr {e : gE} {m m' : Mem} {k i : Nat} (h1 : ∀ j, gI m' k i j = gI m k i j) (h2 : ∀ j, gR m' k i j = gR m k i j) (h3 : gL m' k i = gL m k i) : gcell e m' k i = gcell e m k i := by
  have g1 : gI m' k i = gI m k i := funext h1
  have g2 : (fun j => (gR m' k i j).map (e.1 3)) = fun j => (gR m k i j).map (e.1 3) := funext fun j => by rw [h2]
  unfold gcell
  rw [fvals_congr h1 h2 h3, g1, g2]
theorem fvals_get {e : gE} {m : Mem} {k i : Nat} : ∀ (ts : List Nat) (j0 j t : Nat), ts[j]? = some t → (fvals e m k i j0 ts)[j]? = some (fval e m k i (j0 + j) t)
  | [], _, _, _, h => by simp at h
  | t0 :: ts, j0, 0, t, h => by
    rw [List.getElem?_cons_zero] at h
    cases h
    rfl
  | t0 :: ts, j0, j + 1, t, h => by
    rw [List.getElem?_cons_succ] at h
    rw [fvals, List.getElem?_cons_succ, fvals_get ts (j0 + 1) j t h, show j0 + 1 + j = j0 + (j + 1) by omega]
theorem fvals_len {e : gE} {m : Mem} {k i : Nat} : ∀ (ts : List Nat) (j0 : Nat), (fvals e m k i j0 ts).length = ts.length
  | [], _ => rfl
  | t0 :: ts, j0 => by rw [fvals, List.length_cons, fvals_len ts, List.length_cons]
theorem fvals_set {e : gE} {m m' : Mem} {k i : Nat} {v : Value} : ∀ (ts : List Nat) (j0 j t : Nat), ts[j]? = some t → fval e m' k i (j0 + j) t = v → (∀ (j2 t2 : Nat), ts[j2]? = some t2 → j2 ≠ j → fval e m' k i (j0 + j2) t2 = fval e m k i (j0 + j2) t2) → (fvals e m k i j0 ts).set j v = fvals e m' k i j0 ts
  | [], _, _, _, h, _, _ => by simp at h
  | t0 :: ts, j0, 0, t, h, hv, ho => by
    rw [List.getElem?_cons_zero] at h
    cases h
    rw [fvals, fvals, List.set_cons_zero, ← hv]
    congr 1
    have key : ∀ (us : List Nat) (d : Nat), (∀ (j2 t2 : Nat), us[j2]? = some t2 → fval e m' k i (d + j2) t2 = fval e m k i (d + j2) t2) → fvals e m k i d us = fvals e m' k i d us := by
      intro us
      induction us with
      | nil => intro d _; rfl
      | cons u us ih =>
        intro d hd
        rw [fvals, fvals, ih (d + 1) (fun j2 t2 h2 => by have := hd (j2 + 1) t2 (by rw [List.getElem?_cons_succ]; exact h2); rw [show d + 1 + j2 = d + (j2 + 1) by omega]; exact this)]
        congr 1
        exact (hd 0 u rfl).symm
    exact key ts (j0 + 1) (fun j2 t2 h2 => by have := ho (j2 + 1) t2 (by rw [List.getElem?_cons_succ]; exact h2) (by omega); rw [show j0 + 1 + j2 = j0 + (j2 + 1) by omega]; exact this)
  | t0 :: ts, j0, j + 1, t, h, hv, ho => by
    rw [List.getElem?_cons_succ] at h
    rw [fvals, fvals, List.set_cons_succ]
    congr 1
    · exact (ho 0 t0 rfl (by omega)).symm
    · exact fvals_set ts (j0 + 1) j t h (by rw [show j0 + 1 + j = j0 + (j + 1) by omega]; exact hv) (fun j2 t2 h2 hne => by have := ho (j2 + 1) t2 (by rw [List.getElem?_cons_succ]; exact h2) (by omega); rw [show j0 + 1 + j2 = j0 + (j2 + 1) by omega]; exact this)
def gws (ids : List (Nat × Nat)) (e : gE) (m : Mem) : va_W := ids.map (fun z => (e.1 z.1 z.2, gcell e m z.1 z.2))
theorem gws_get {X : va_W} {ids : List (Nat × Nat)} {e : gE} {m : Mem} {k i : Nat} (h : (k, i) ∈ ids) : ∃ q : Nat, ids[q]? = some (k, i) ∧ (X ++ gws ids e m)[X.length + q]? = some (e.1 k i, gcell e m k i) := by
  obtain ⟨q, hq⟩ := List.getElem?_of_mem h
  refine ⟨q, hq, ?_⟩
  rw [List.getElem?_append_right (by omega), show X.length + q - X.length = q by omega]
  unfold gws
  rw [List.getElem?_map, hq]
  rfl
theorem gws_set {A : Nat → Prop} {X : va_W} {ids : List (Nat × Nat)} {e : gE} {m m' : Mem} {k i q : Nat} {c : va_E} (hD : va_D A (X ++ gws ids e m)) (hq : ids[q]? = some (k, i)) (h1 : gcell e m' k i = c) (h2 : ∀ a b : Nat, ¬ (a = k ∧ b = i) → gcell e m' a b = gcell e m a b) :
    (X ++ gws ids e m).set (X.length + q) (e.1 k i, c) = X ++ gws ids e m' := by
  have hlen : (gws ids e m).length = ids.length := by unfold gws; rw [List.length_map]
  have hql : q < ids.length := (List.getElem?_eq_some_iff.mp hq).1
  have uniq : ∀ r : Nat, ids[r]? = some (k, i) → r = q := by
    intro r hr
    have e1 : (X ++ gws ids e m)[X.length + r]? = some (e.1 k i, gcell e m k i) := by
      rw [List.getElem?_append_right (by omega), show X.length + r - X.length = r by omega]
      unfold gws
      rw [List.getElem?_map, hr]
      rfl
    have e2 : (X ++ gws ids e m)[X.length + q]? = some (e.1 k i, gcell e m k i) := by
      rw [List.getElem?_append_right (by omega), show X.length + q - X.length = q by omega]
      unfold gws
      rw [List.getElem?_map, hq]
      rfl
    have := hD.1 _ _ _ _ e1 e2 rfl
    omega
  rw [List.set_append, if_neg (by omega), show X.length + q - X.length = q by omega]
  congr 1
  refine List.ext_getElem? (fun r => ?_)
  rw [List.getElem?_set]
  by_cases hr : q = r
  · subst hr
    rw [if_pos rfl, if_pos (by omega)]
    unfold gws
    rw [List.getElem?_map, hq]
    show _ = some (e.1 k i, gcell e m' k i)
    rw [h1]
  · rw [if_neg hr]
    unfold gws
    rw [List.getElem?_map, List.getElem?_map]
    cases hz : ids[r]? with
    | none => rfl
    | some z =>
      show some (e.1 z.1 z.2, gcell e m z.1 z.2) = some (e.1 z.1 z.2, gcell e m' z.1 z.2)
      rw [h2 z.1 z.2 (fun hz2 => hr (by
        have : z = (k, i) := Prod.ext hz2.1 hz2.2
        rw [this] at hz
        exact (uniq r hz).symm))]
def gtys (e : gE) : List (ClassId × FieldType) := [(e.2.1, .int), (e.2.2.1, .boolean), (e.2.2.2.1, .object "CycleSynthesis$Operation"), (e.2.2.2.2.1, .object "CycleSynthesis$Block"), (e.2.2.2.2.2.1, .long)]
/-- what a method may change: its world's cells, and those that it makes -/
def gA (X : va_W) (ids : List (Nat × Nat)) (e : gE) (sz : Nat) : Nat → Prop := fun q => ((∃ (k : Nat) (c : va_E), X[k]? = some (q, c)) ∨ ∃ z ∈ ids, q = e.1 z.1 z.2) ∨ sz ≤ q
theorem gA_in {X : va_W} {ids : List (Nat × Nat)} {e : gE} {m : Mem} {sz k : Nat} {q : Nat × va_E} (h : (X ++ gws ids e m)[k]? = some q) : gA X ids e sz q.1 := by
  left
  rcases List.mem_append.mp (List.mem_of_getElem? h) with h1 | h1
  · obtain ⟨j, hj⟩ := List.getElem?_of_mem h1
    exact Or.inl ⟨j, q.2, hj⟩
  · obtain ⟨z, hz, he⟩ := List.mem_map.mp h1
    exact Or.inr ⟨z, hz, by rw [← he]⟩
/-- the written texts: if, while, m, else -/
def lenS : List Nat := [2, 5, 1, 4]
def bytS : List (List Int32) := [[105, 102], [119, 104, 105, 108, 101], [109], [101, 108, 115, 101]]
/-- the written texts lie in the heap, outside of what A may change, and the translator's constants are resolved to them -/
def GSA (e : gE) (A : Nat → Prop) (U : State) : Prop :=
  vk_S 4 lenS bytS e.2.2.2.2.2.2.1 e.2.2.2.2.2.2.2 A U U.heap ∧ (vk_R RX8 73 "if" (e.2.2.2.2.2.2.1 0) U ∧ vk_R RX8 82 "while" (e.2.2.2.2.2.2.1 1) U ∧ vk_R RX8 87 "m" (e.2.2.2.2.2.2.1 2) U ∧ vk_R RX8 152 "else" (e.2.2.2.2.2.2.1 3) U) ∧ va_Z "java/lang/String" "COMPACT_STRINGS" "Z" (.int 1) A U U.heap ∧ va_Zq "jdk/internal/util/Preconditions" "SIOOBE_FORMATTER" "Ljava/util/function/BiFunction;" A U U.heap
/-- a state that holds the memory -/
def GP (D : va_G) (X : va_W) (ids : List (Nat × Nat)) (e : gE) (m : Mem) (U : State) : Prop := va_P D vwCl (X ++ gws ids e m) U.heap ∧ va_K D vwCl (gtys e) U ∧ va_D (fun _ => True) (X ++ gws ids e m)
/-- within a method: the heap holds the memory, and nothing else of the start has changed -/
def GW (D : va_G) (X : va_W) (ids : List (Nat × Nat)) (e : gE) (A : Nat → Prop) (s : State) (m : Mem) (H : Heap) (locs : List Loc) : Prop := va_K D vwCl (gtys e) s ∧ va_P D vwCl (X ++ gws ids e m) H ∧ va_D A (X ++ gws ids e m) ∧ va_S A s.heap H locs ∧ GSA e A s
/-- what a method leaves: its answer, a world, and the frame -/
def gQ (rv : Option Value) (B : State → Prop) (A : Nat → Prop) : Array Value → State → Outcome → State → Prop := fun _ st oc t => (oc = .returned rv ∧ B t) ∧ va_F A st t
/-- a method's contract: from the memory m with these arguments it answers rv and leaves the memory m' -/
def gMet (l : Launch) (y : MethodName) (cc : ByteArray) (maxL : Nat) (ret : Option FieldType) (fr lo : Nat) (D : va_G) (X : va_W) (ids : List (Nat × Nat)) (e : gE) (av : List Value) (m : Mem) (rv : Option Value) (m' : Mem) : Prop :=
  ∀ sz : Nat, Met l y (.code y cc maxL ret :: gtbl) { frames := fr, cells := 0, slots := 0, locals := lo } (va_Pc av (fun U => U.heap.size = sz ∧ GP D X ids e m U ∧ GSA e (gA X ids e sz) U)) (gQ rv (GP D X ids e m') (gA X ids e sz)) 0 0 (gA X ids e sz)
end
section
/-! ===== ROWS over the memory world ===== -/
theorem gA_mono {X : va_W} {ids : List (Nat × Nat)} {E : gE} {a b : Nat} (h : a ≤ b) : ∀ q, gA X ids E b q → gA X ids E a q := fun q hq => hq.elim Or.inl fun h2 => Or.inr (Nat.le_trans h h2)
theorem GP.moved {D : va_G} {X : va_W} {ids : List (Nat × Nat)} {E : gE} {g : Mem} {u U : State} (hh : U.heap = u.heap) (hvm : u.vm.Alike U.vm) (h : GP D X ids E g u) : GP D X ids E g U := ⟨by rw [hh]; exact h.1, va_K.moved hvm h.2.1, h.2.2⟩
/-- a class: its name, fields and types, by its kind -/
def gCls (k : Nat) (C : String) (T : u_T) (N : Nat) (ty : Nat → FieldType) : Prop := k < 20 ∧ vwCl[k]? = some (C, T, N) ∧ (∀ w ∈ u_ws C T N, w ∈ gtbl) ∧ (∀ j, j < N → parseFieldDescriptor (T j).2.2.1 = some (ty j)) ∧ (∀ a, a < N → ∀ b, b < N → a ≠ b → (T a).2.1 ≠ (T b).2.1) ∧ (gly k).length = N
section GROW
variable {p : Program} {l : Launch} {en : Env} {R : Room} {s : State} {m : MethodId} {args : Array Value} {below : List Frame} {meth : Method} {c : Code} {H : Heap} {locs : List Loc} {cells slots : Nat} {Q : State → Prop}
variable {cc : ByteArray} {nL pc : Nat} {ls : Array Slot} {rest : List Value} {own : String} {D : va_G} {X : va_W} {ids : List (Nat × Nat)} {E : gE} {A : Nat → Prop} {g : Mem} {k i : Nat} {C : String} {T : u_T} {N : Nat} {ty : Nat → FieldType} {index : Nat}
theorem gcell_obj (hC : gCls k C T N ty) : gcell E g k i = .inr (k, fvals E g k i 0 (gly k)) := by
  unfold gcell
  rw [if_pos hC.1]
/-- getfield: a field of code t, at place j -/
theorem g_get (G : CallFix p m c cc nL s args gtbl own) (hw : GW D X ids E A s g H locs) (hC : gCls k C T N ty) (hid : (k, i) ∈ ids) (j : Nat) {t : Nat} (hj : (gly k)[j]? = some t) (hl : Cond.fieldLink own index (T j).1 (T j).2.1 (T j).2.2.1 ∈ gtbl) (hdg : decode cc pc = .ok (.getfield index, 3))
    (kk : W p l en R s m args below meth c H locs cells slots Q (F0 m (pc + 3) ls (fval E g k i j t :: rest))) : W p l en R s m args below meth c H locs cells slots Q (F0 m pc ls (.ref (E.1 k i) :: rest)) := by
  obtain ⟨q, hq, he⟩ := gws_get (X := X) (e := E) (m := g) hid
  rw [gcell_obj hC] at he
  have hN : j < N := by rw [← hC.2.2.2.2.2]; exact (List.getElem?_eq_some_iff.mp hj).1
  refine va_get (D := D) (ci := k) (v := fval E g k i j t) (C := C) (T := T) (N := N) G.1 G.2.1 G.2.2.2.2 hC.2.2.1 G.2.2.2.1 hw.1 hw.2.1 (X.length + q) he hC.2.1 j hN (G.2.2.2.2 _ hl) (fun _ h9 => h9) ?_ hdg kk
  have := fvals_get (e := E) (m := g) (k := k) (i := i) (gly k) 0 j t hj
  rw [Nat.zero_add] at this
  exact this
theorem g_getI (G : CallFix p m c cc nL s args gtbl own) (hw : GW D X ids E A s g H locs) (hC : gCls k C T N ty) (hid : (k, i) ∈ ids) (j : Nat) (hj : (gly k)[j]? = some 0) (hl : Cond.fieldLink own index (T j).1 (T j).2.1 (T j).2.2.1 ∈ gtbl) (hdg : decode cc pc = .ok (.getfield index, 3))
    (kk : W p l en R s m args below meth c H locs cells slots Q (F0 m (pc + 3) ls (.int (gI g k i j) :: rest))) : W p l en R s m args below meth c H locs cells slots Q (F0 m pc ls (.ref (E.1 k i) :: rest)) := g_get G hw hC hid j hj hl hdg kk
theorem g_getL (G : CallFix p m c cc nL s args gtbl own) (hw : GW D X ids E A s g H locs) (hC : gCls k C T N ty) (hid : (k, i) ∈ ids) (j : Nat) (hj : (gly k)[j]? = some 1) (hl : Cond.fieldLink own index (T j).1 (T j).2.1 (T j).2.2.1 ∈ gtbl) (hdg : decode cc pc = .ok (.getfield index, 3))
    (kk : W p l en R s m args below meth c H locs cells slots Q (F0 m (pc + 3) ls (.long (gL g k i) :: rest))) : W p l en R s m args below meth c H locs cells slots Q (F0 m pc ls (.ref (E.1 k i) :: rest)) := g_get G hw hC hid j hj hl hdg kk
/-- a reference that is always there -/
theorem g_getC (G : CallFix p m c cc nL s args gtbl own) (hw : GW D X ids E A s g H locs) (hC : gCls k C T N ty) (hid : (k, i) ∈ ids) (j : Nat) {t : Nat} (kd : Nat) (ht : t = 1000 + kd) (hk : kd < 1000) (hj : (gly k)[j]? = some t) (hl : Cond.fieldLink own index (T j).1 (T j).2.1 (T j).2.2.1 ∈ gtbl) (hdg : decode cc pc = .ok (.getfield index, 3))
    (kk : W p l en R s m args below meth c H locs cells slots Q (F0 m (pc + 3) ls (.ref (E.1 kd i) :: rest))) : W p l en R s m args below meth c H locs cells slots Q (F0 m pc ls (.ref (E.1 k i) :: rest)) := by
  refine g_get G hw hC hid j hj hl hdg ?_
  have e1 : fval E g k i j t = .ref (E.1 kd i) := by
    unfold fval
    rw [if_neg (by omega), if_neg (by omega), if_pos (by omega), show t - 1000 = kd by omega]
  rw [e1]
  exact kk
/-- a reference that may be null, as it is -/
theorem g_getN (G : CallFix p m c cc nL s args gtbl own) (hw : GW D X ids E A s g H locs) (hC : gCls k C T N ty) (hid : (k, i) ∈ ids) (j : Nat) {t : Nat} (kd : Nat) (ht : t = 2000 + kd) (hj : (gly k)[j]? = some t) (hl : Cond.fieldLink own index (T j).1 (T j).2.1 (T j).2.2.1 ∈ gtbl) (hdg : decode cc pc = .ok (.getfield index, 3))
    (kk : W p l en R s m args below meth c H locs cells slots Q (F0 m (pc + 3) ls (va_rf ((gR g k i j).map (E.1 kd)) :: rest))) : W p l en R s m args below meth c H locs cells slots Q (F0 m pc ls (.ref (E.1 k i) :: rest)) := by
  refine g_get G hw hC hid j hj hl hdg ?_
  have e1 : fval E g k i j t = va_rf ((gR g k i j).map (E.1 kd)) := by
    unfold fval
    rw [if_neg (by omega), if_neg (by omega), if_neg (by omega), show t - 2000 = kd by omega]
  rw [e1]
  exact kk
/-- a reference that may be null, known not to be -/
theorem g_getR (G : CallFix p m c cc nL s args gtbl own) (hw : GW D X ids E A s g H locs) (hC : gCls k C T N ty) (hid : (k, i) ∈ ids) (j : Nat) {t : Nat} (kd : Nat) (ht : t = 2000 + kd) (hj : (gly k)[j]? = some t) (hl : Cond.fieldLink own index (T j).1 (T j).2.1 (T j).2.2.1 ∈ gtbl) {b : Nat} (hb : gR g k i j = some b) (hdg : decode cc pc = .ok (.getfield index, 3))
    (kk : W p l en R s m args below meth c H locs cells slots Q (F0 m (pc + 3) ls (.ref (E.1 kd b) :: rest))) : W p l en R s m args below meth c H locs cells slots Q (F0 m pc ls (.ref (E.1 k i) :: rest)) := by
  refine g_getN G hw hC hid j kd ht hj hl hdg ?_
  rw [hb]
  exact kk
/-- putfield, of any kind: the memory g' holds v at that place, and all else is the same -/
theorem g_put (G : CallFix p m c cc nL s args gtbl own) (hw : GW D X ids E A s g H locs) (hC : gCls k C T N ty) (hid : (k, i) ∈ ids) (j : Nat) {t : Nat} (hj : (gly k)[j]? = some t) (hl : Cond.fieldLink own index (T j).1 (T j).2.1 (T j).2.2.1 ∈ gtbl) (hfin : (T j).2.2.2 = false) {v : Value} (hn : narrow (ty j) v = v) (hfit : fits (ty j) v = true) (hdg : decode cc pc = .ok (.putfield index, 3))
    {g' : Mem} (hv : fval E g' k i j t = v) (ho : ∀ j2 t2 : Nat, (gly k)[j2]? = some t2 → j2 ≠ j → fval E g' k i j2 t2 = fval E g k i j2 t2) (ho2 : ∀ a b : Nat, ¬ (a = k ∧ b = i) → gcell E g' a b = gcell E g a b)
    (kk : ∀ (H1 : Heap) (locs1 : List Loc), GW D X ids E A s g' H1 locs1 → W p l en R s m args below meth c H1 locs1 cells slots Q (F0 m (pc + 3) ls rest)) : W p l en R s m args below meth c H locs cells slots Q (F0 m pc ls (v :: .ref (E.1 k i) :: rest)) := by
  obtain ⟨q, hq, he⟩ := gws_get (X := X) (e := E) (m := g) hid
  rw [gcell_obj hC] at he
  have hN : j < N := by rw [← hC.2.2.2.2.2]; exact (List.getElem?_eq_some_iff.mp hj).1
  refine va_put (D := D) (ci := k) (v := v) (ty := ty j) (C := C) (T := T) (N := N) G.1 G.2.1 G.2.2.2.2 hC.2.2.1 ty hC.2.2.2.1 hC.2.2.2.2.1 G.2.2.2.1 hw.1 hw.2.1 hw.2.2.1 hw.2.2.2.1 (X.length + q) he hC.2.1 j hN (G.2.2.2.2 _ hl) (fun _ h9 => h9) hfin (hC.2.2.2.1 j hN) hn hfit (by rw [fvals_len, hC.2.2.2.2.2]; exact hN) hdg (fun H1 locs1 hP hD hS => ?_)
  have e2 : (fvals E g k i 0 (gly k)).set j v = fvals E g' k i 0 (gly k) := fvals_set (gly k) 0 j t hj (by rw [Nat.zero_add]; exact hv) (fun j2 t2 h2 hne => by rw [Nat.zero_add]; exact ho j2 t2 h2 hne)
  rw [e2, gws_set (m' := g') hw.2.2.1 hq (gcell_obj hC) ho2] at hP hD
  exact kk H1 locs1 ⟨hw.1, hP, hD, hS, hw.2.2.2.2⟩
theorem gcell_sI {v : Int32} {j : Nat} (a b : Nat) (h : ¬ (a = k ∧ b = i)) : gcell E (sI g k i j v) a b = gcell E g a b := gcell_congr (fun z => by rw [gI_sI, if_neg (fun q => h ⟨q.1, q.2.1⟩)]) (fun z => rfl) rfl
theorem gcell_sR {v : Option Nat} {j : Nat} (a b : Nat) (h : ¬ (a = k ∧ b = i)) : gcell E (sR g k i j v) a b = gcell E g a b := gcell_congr (fun z => rfl) (fun z => by rw [gR_sR, if_neg (fun q => h ⟨q.1, q.2.1⟩)]) rfl
theorem gcell_sL {v : Int64} (a b : Nat) (h : ¬ (a = k ∧ b = i)) : gcell E (sL g k i v) a b = gcell E g a b := gcell_congr (fun z => rfl) (fun z => rfl) (by rw [gL_sL, if_neg h])
theorem g_putI (G : CallFix p m c cc nL s args gtbl own) (hw : GW D X ids E A s g H locs) (hC : gCls k C T N ty) (hid : (k, i) ∈ ids) (j : Nat) (hj : (gly k)[j]? = some 0) (hl : Cond.fieldLink own index (T j).1 (T j).2.1 (T j).2.2.1 ∈ gtbl) (hfin : (T j).2.2.2 = false) {v : Int32} (hn : narrow (ty j) (.int v) = .int v) (hfit : fits (ty j) (.int v) = true) (hdg : decode cc pc = .ok (.putfield index, 3))
    (kk : ∀ (H1 : Heap) (locs1 : List Loc), GW D X ids E A s (sI g k i j v) H1 locs1 → W p l en R s m args below meth c H1 locs1 cells slots Q (F0 m (pc + 3) ls rest)) : W p l en R s m args below meth c H locs cells slots Q (F0 m pc ls (.int v :: .ref (E.1 k i) :: rest)) := by
  refine g_put G hw hC hid j hj hl hfin hn hfit hdg (g' := sI g k i j v) ?_ ?_ (fun a b h => gcell_sI a b h) kk
  · show Value.int (gI (sI g k i j v) k i j) = _
    rw [gI_sI, if_pos ⟨rfl, rfl, rfl⟩]
  · intro j2 t2 h2 hne
    have e1 : ¬ (k = k ∧ i = i ∧ j2 = j) := fun q => hne q.2.2
    unfold fval
    rw [gI_sI, if_neg e1, gL_sI, gR_sI]
theorem g_putL (G : CallFix p m c cc nL s args gtbl own) (hw : GW D X ids E A s g H locs) (hC : gCls k C T N ty) (hid : (k, i) ∈ ids) (j : Nat) (hj : (gly k)[j]? = some 1) (hone : ∀ j2, (gly k)[j2]? = some 1 → j2 = j) (hl : Cond.fieldLink own index (T j).1 (T j).2.1 (T j).2.2.1 ∈ gtbl) (hfin : (T j).2.2.2 = false) {v : Int64} (hn : narrow (ty j) (.long v) = .long v) (hfit : fits (ty j) (.long v) = true) (hdg : decode cc pc = .ok (.putfield index, 3))
    (kk : ∀ (H1 : Heap) (locs1 : List Loc), GW D X ids E A s (sL g k i v) H1 locs1 → W p l en R s m args below meth c H1 locs1 cells slots Q (F0 m (pc + 3) ls rest)) : W p l en R s m args below meth c H locs cells slots Q (F0 m pc ls (.long v :: .ref (E.1 k i) :: rest)) := by
  refine g_put G hw hC hid j hj hl hfin hn hfit hdg (g' := sL g k i v) ?_ ?_ (fun a b h => gcell_sL a b h) kk
  · show Value.long (gL (sL g k i v) k i) = _
    rw [gL_sL, if_pos ⟨rfl, rfl⟩]
  · intro j2 t2 h2 hne
    have : t2 ≠ 1 := fun q => hne (hone j2 (by rw [h2, q]))
    unfold fval
    rw [gI_sL, gR_sL, if_neg this, if_neg this]
/-- a reference, or null -/
theorem g_putN (G : CallFix p m c cc nL s args gtbl own) (hw : GW D X ids E A s g H locs) (hC : gCls k C T N ty) (hid : (k, i) ∈ ids) (j : Nat) {t : Nat} (kd : Nat) (ht : t = 2000 + kd) (hj : (gly k)[j]? = some t) (hl : Cond.fieldLink own index (T j).1 (T j).2.1 (T j).2.2.1 ∈ gtbl) (hfin : (T j).2.2.2 = false) {o : Option Nat} (hn : narrow (ty j) (va_rf (o.map (E.1 kd))) = va_rf (o.map (E.1 kd))) (hfit : fits (ty j) (va_rf (o.map (E.1 kd))) = true) (hdg : decode cc pc = .ok (.putfield index, 3))
    (kk : ∀ (H1 : Heap) (locs1 : List Loc), GW D X ids E A s (sR g k i j o) H1 locs1 → W p l en R s m args below meth c H1 locs1 cells slots Q (F0 m (pc + 3) ls rest)) : W p l en R s m args below meth c H locs cells slots Q (F0 m pc ls (va_rf (o.map (E.1 kd)) :: .ref (E.1 k i) :: rest)) := by
  refine g_put G hw hC hid j hj hl hfin hn hfit hdg (g' := sR g k i j o) ?_ ?_ (fun a b h => gcell_sR a b h) kk
  · unfold fval
    rw [if_neg (by omega), if_neg (by omega), if_neg (by omega), gR_sR, if_pos ⟨rfl, rfl, rfl⟩, show t - 2000 = kd by omega]
  · intro j2 t2 h2 hne
    have e1 : ¬ (k = k ∧ i = i ∧ j2 = j) := fun q => hne q.2.2
    unfold fval
    rw [gR_sR, if_neg e1, gL_sR, gI_sR]
theorem g_putR (G : CallFix p m c cc nL s args gtbl own) (hw : GW D X ids E A s g H locs) (hC : gCls k C T N ty) (hid : (k, i) ∈ ids) (j : Nat) {t : Nat} (kd : Nat) (ht : t = 2000 + kd) (hj : (gly k)[j]? = some t) (hl : Cond.fieldLink own index (T j).1 (T j).2.1 (T j).2.2.1 ∈ gtbl) (hfin : (T j).2.2.2 = false) {b : Nat} (hn : narrow (ty j) (.ref (E.1 kd b)) = .ref (E.1 kd b)) (hfit : fits (ty j) (.ref (E.1 kd b)) = true) (hdg : decode cc pc = .ok (.putfield index, 3))
    (kk : ∀ (H1 : Heap) (locs1 : List Loc), GW D X ids E A s (sR g k i j (some b)) H1 locs1 → W p l en R s m args below meth c H1 locs1 cells slots Q (F0 m (pc + 3) ls rest)) : W p l en R s m args below meth c H locs cells slots Q (F0 m pc ls (.ref (E.1 kd b) :: .ref (E.1 k i) :: rest)) := g_putN G hw hC hid j kd ht hj hl hfin (o := some b) hn hfit hdg kk
theorem g_put0 (G : CallFix p m c cc nL s args gtbl own) (hw : GW D X ids E A s g H locs) (hC : gCls k C T N ty) (hid : (k, i) ∈ ids) (j : Nat) {t : Nat} (kd : Nat) (ht : t = 2000 + kd) (hj : (gly k)[j]? = some t) (hl : Cond.fieldLink own index (T j).1 (T j).2.1 (T j).2.2.1 ∈ gtbl) (hfin : (T j).2.2.2 = false) (hn : narrow (ty j) .null = .null) (hfit : fits (ty j) .null = true) (hdg : decode cc pc = .ok (.putfield index, 3))
    (kk : ∀ (H1 : Heap) (locs1 : List Loc), GW D X ids E A s (sR g k i j none) H1 locs1 → W p l en R s m args below meth c H1 locs1 cells slots Q (F0 m (pc + 3) ls rest)) : W p l en R s m args below meth c H locs cells slots Q (F0 m pc ls (.null :: .ref (E.1 k i) :: rest)) := g_putN G hw hC hid j kd ht hj hl hfin (o := none) hn hfit hdg kk
/-! rows of numbers -/
theorem gcell_i (hk : 20 ≤ k) {n : Nat} (ha : garr k = (0, n)) : gcell E g k i = .inl (E.2.1, n, .inl (gI g k i)) := by
  unfold gcell
  simp [ha, Nat.not_lt.mpr hk]
theorem gcell_z (hk : 20 ≤ k) {n : Nat} (ha : garr k = (1, n)) : gcell E g k i = .inl (E.2.2.1, n, .inl (gI g k i)) := by
  unfold gcell
  simp [ha, Nat.not_lt.mpr hk]
theorem gcell_q (hk : 20 ≤ k) {n : Nat} (ha : garr k = (2, n)) : gcell E g k i = .inl (E.2.2.2.1, n, .inr (.inr (.inr (.inr (fun j => (gR g k i j).map (E.1 3)))))) := by
  unfold gcell
  simp [ha, Nat.not_lt.mpr hk]
theorem gcell_o (hk : 20 ≤ k) {n : Nat} (ha : garr k = (3, n)) : gcell E g k i = .inl (E.2.2.2.1, n, .inr (.inr (.inr (.inr (fun j => some (E.1 3 (200 * i + j))))))) := by
  unfold gcell
  simp [ha, Nat.not_lt.mpr hk]
theorem gcell_b (hk : 20 ≤ k) {n : Nat} (ha : garr k = (4, n)) : gcell E g k i = .inl (E.2.2.2.2.1, n, .inr (.inr (.inr (.inr (fun j => some (E.1 0 (175 * i + j))))))) := by
  unfold gcell
  simp [ha, Nat.not_lt.mpr hk]
theorem g_iald (G : CallFix p m c cc nL s args gtbl own) (hw : GW D X ids E A s g H locs) (hid : (k, i) ∈ ids) {n : Nat} (hk : 20 ≤ k) (ha : garr k = (0, n)) {x : Int32} {j : Nat} (hx : ix x n = some j) (hdg : decode cc pc = .ok (.iaload, 1))
    (kk : W p l en R s m args below meth c H locs cells slots Q (F0 m (pc + 1) ls (.int (gI g k i j) :: rest))) : W p l en R s m args below meth c H locs cells slots Q (F0 m pc ls (.int x :: .ref (E.1 k i) :: rest)) := by
  obtain ⟨q, hq, he⟩ := gws_get (X := X) (e := E) (m := g) hid
  rw [gcell_i hk ha] at he
  refine va_iald G.1 G.2.1 hw.1 hw.2.1 (X.length + q) 0 he rfl (ix_in hx) hdg ?_
  rw [ix_eq hx]
  exact kk
theorem g_zald (G : CallFix p m c cc nL s args gtbl own) (hw : GW D X ids E A s g H locs) (hid : (k, i) ∈ ids) {n : Nat} (hk : 20 ≤ k) (ha : garr k = (1, n)) {x : Int32} {j : Nat} (hx : ix x n = some j) (hdg : decode cc pc = .ok (.baload, 1))
    (kk : W p l en R s m args below meth c H locs cells slots Q (F0 m (pc + 1) ls (.int (gI g k i j) :: rest))) : W p l en R s m args below meth c H locs cells slots Q (F0 m pc ls (.int x :: .ref (E.1 k i) :: rest)) := by
  obtain ⟨q, hq, he⟩ := gws_get (X := X) (e := E) (m := g) hid
  rw [gcell_z hk ha] at he
  refine va_zald G.1 G.2.1 hw.1 hw.2.1 (X.length + q) 1 he rfl (ix_in hx) hdg ?_
  rw [ix_eq hx]
  exact kk
theorem g_iast (G : CallFix p m c cc nL s args gtbl own) (hw : GW D X ids E A s g H locs) (hid : (k, i) ∈ ids) {n : Nat} (hk : 20 ≤ k) (ha : garr k = (0, n)) {x v : Int32} {j : Nat} (hx : ix x n = some j) (hdg : decode cc pc = .ok (.iastore, 1))
    (kk : ∀ (H1 : Heap) (locs1 : List Loc), GW D X ids E A s (sI g k i j v) H1 locs1 → W p l en R s m args below meth c H1 locs1 cells slots Q (F0 m (pc + 1) ls rest)) : W p l en R s m args below meth c H locs cells slots Q (F0 m pc ls (.int v :: .int x :: .ref (E.1 k i) :: rest)) := by
  obtain ⟨q, hq, he⟩ := gws_get (X := X) (e := E) (m := g) hid
  rw [gcell_i hk ha] at he
  refine va_iast G.1 G.2.1 hw.1 hw.2.1 hw.2.2.1 hw.2.2.2.1 (X.length + q) 0 he rfl (ix_in hx) hdg (fun H1 locs1 hP hD hS => ?_)
  have e1 : upd (gI g k i) x.toNatClampNeg v = gI (sI g k i j v) k i := by
    funext z
    rw [ix_eq hx, gI_sI]
    unfold upd
    by_cases hz : z = j
    · rw [if_pos hz, if_pos ⟨rfl, rfl, hz⟩]
    · rw [if_neg hz, if_neg (fun q => hz q.2.2)]
  rw [e1, gws_set (m' := sI g k i j v) hw.2.2.1 hq (gcell_i hk ha) (fun a b h => gcell_sI a b h)] at hP hD
  exact kk H1 locs1 ⟨hw.1, hP, hD, hS, hw.2.2.2.2⟩
theorem g_zast (G : CallFix p m c cc nL s args gtbl own) (hw : GW D X ids E A s g H locs) (hid : (k, i) ∈ ids) {n : Nat} (hk : 20 ≤ k) (ha : garr k = (1, n)) {x v : Int32} {j : Nat} (hx : ix x n = some j) (hv : vp_nar .boolean v = v) (hdg : decode cc pc = .ok (.bastore, 1))
    (kk : ∀ (H1 : Heap) (locs1 : List Loc), GW D X ids E A s (sI g k i j v) H1 locs1 → W p l en R s m args below meth c H1 locs1 cells slots Q (F0 m (pc + 1) ls rest)) : W p l en R s m args below meth c H locs cells slots Q (F0 m pc ls (.int v :: .int x :: .ref (E.1 k i) :: rest)) := by
  obtain ⟨q, hq, he⟩ := gws_get (X := X) (e := E) (m := g) hid
  rw [gcell_z hk ha] at he
  refine va_zast G.1 G.2.1 hw.1 hw.2.1 hw.2.2.1 hw.2.2.2.1 (X.length + q) 1 he rfl (ix_in hx) hdg (fun H1 locs1 hP hD hS => ?_)
  have e1 : upd (gI g k i) x.toNatClampNeg (vp_nar .boolean v) = gI (sI g k i j v) k i := by
    funext z
    rw [ix_eq hx, gI_sI, hv]
    unfold upd
    by_cases hz : z = j
    · rw [if_pos hz, if_pos ⟨rfl, rfl, hz⟩]
    · rw [if_neg hz, if_neg (fun q => hz q.2.2)]
  rw [e1, gws_set (m' := sI g k i j v) hw.2.2.1 hq (gcell_z hk ha) (fun a b h => gcell_sI a b h)] at hP hD
  exact kk H1 locs1 ⟨hw.1, hP, hD, hS, hw.2.2.2.2⟩
/-! rows of references -/
theorem g_qald (G : CallFix p m c cc nL s args gtbl own) (hw : GW D X ids E A s g H locs) (hid : (k, i) ∈ ids) {n : Nat} (hk : 20 ≤ k) (ha : garr k = (2, n)) {x : Int32} {j b : Nat} (hx : ix x n = some j) (hb : gR g k i j = some b) (hdg : decode cc pc = .ok (.aaload, 1))
    (kk : W p l en R s m args below meth c H locs cells slots Q (F0 m (pc + 1) ls (.ref (E.1 3 b) :: rest))) : W p l en R s m args below meth c H locs cells slots Q (F0 m pc ls (.int x :: .ref (E.1 k i) :: rest)) := by
  obtain ⟨q, hq, he⟩ := gws_get (X := X) (e := E) (m := g) hid
  rw [gcell_q hk ha] at he
  refine va_aldq G.1 G.2.1 hw.1 hw.2.1 (X.length + q) 2 he rfl (ix_in hx) hdg ?_
  rw [ix_eq hx, hb]
  exact kk
theorem g_oald (G : CallFix p m c cc nL s args gtbl own) (hw : GW D X ids E A s g H locs) (hid : (k, i) ∈ ids) {n : Nat} (hk : 20 ≤ k) (ha : garr k = (3, n)) {x : Int32} {j : Nat} (hx : ix x n = some j) (hdg : decode cc pc = .ok (.aaload, 1))
    (kk : W p l en R s m args below meth c H locs cells slots Q (F0 m (pc + 1) ls (.ref (E.1 3 (200 * i + j)) :: rest))) : W p l en R s m args below meth c H locs cells slots Q (F0 m pc ls (.int x :: .ref (E.1 k i) :: rest)) := by
  obtain ⟨q, hq, he⟩ := gws_get (X := X) (e := E) (m := g) hid
  rw [gcell_o hk ha] at he
  refine va_aldq G.1 G.2.1 hw.1 hw.2.1 (X.length + q) 2 he rfl (ix_in hx) hdg ?_
  rw [ix_eq hx]
  exact kk
theorem g_bald (G : CallFix p m c cc nL s args gtbl own) (hw : GW D X ids E A s g H locs) (hid : (k, i) ∈ ids) {n : Nat} (hk : 20 ≤ k) (ha : garr k = (4, n)) {x : Int32} {j : Nat} (hx : ix x n = some j) (hdg : decode cc pc = .ok (.aaload, 1))
    (kk : W p l en R s m args below meth c H locs cells slots Q (F0 m (pc + 1) ls (.ref (E.1 0 (175 * i + j)) :: rest))) : W p l en R s m args below meth c H locs cells slots Q (F0 m pc ls (.int x :: .ref (E.1 k i) :: rest)) := by
  obtain ⟨q, hq, he⟩ := gws_get (X := X) (e := E) (m := g) hid
  rw [gcell_b hk ha] at he
  refine va_aldq G.1 G.2.1 hw.1 hw.2.1 (X.length + q) 3 he rfl (ix_in hx) hdg ?_
  rw [ix_eq hx]
  exact kk
theorem g_qast (G : CallFix p m c cc nL s args gtbl own) (hw : GW D X ids E A s g H locs) (hid : (k, i) ∈ ids) {n : Nat} (hk : 20 ≤ k) (ha : garr k = (2, n)) {x : Int32} {j b : Nat} (hb : (3, b) ∈ ids) (hx : ix x n = some j) (hdg : decode cc pc = .ok (.aastore, 1))
    (kk : ∀ (H1 : Heap) (locs1 : List Loc), GW D X ids E A s (sR g k i j (some b)) H1 locs1 → W p l en R s m args below meth c H1 locs1 cells slots Q (F0 m (pc + 1) ls rest)) : W p l en R s m args below meth c H locs cells slots Q (F0 m pc ls (.ref (E.1 3 b) :: .int x :: .ref (E.1 k i) :: rest)) := by
  obtain ⟨q, hq, he⟩ := gws_get (X := X) (e := E) (m := g) hid
  obtain ⟨q2, hq2, he2⟩ := gws_get (X := X) (e := E) (m := g) hb
  rw [gcell_q hk ha] at he
  have e0 : gcell E g 3 b = .inr (3, fvals E g 3 b 0 (gly 3)) := rfl
  rw [e0] at he2
  refine va_astq G.1 G.2.1 hw.1 hw.2.1 hw.2.2.1 hw.2.2.2.1 (X.length + q) 2 (X.length + q2) 3 (r := (RX4, TX4, 15)) he rfl he2 rfl (ix_in hx) hdg (fun H1 locs1 hP hD hS => ?_)
  have e1 : va_up (fun j => (gR g k i j).map (E.1 3)) x.toNatClampNeg (some (E.1 3 b)) = fun z => (gR (sR g k i j (some b)) k i z).map (E.1 3) := by
    funext z
    rw [ix_eq hx, gR_sR]
    unfold va_up
    by_cases hz : z = j
    · rw [if_pos hz, if_pos ⟨rfl, rfl, hz⟩]
      rfl
    · rw [if_neg hz, if_neg (fun q => hz q.2.2)]
  rw [e1, gws_set (m' := sR g k i j (some b)) hw.2.2.1 hq (gcell_q hk ha) (fun a b h => gcell_sR a b h)] at hP hD
  exact kk H1 locs1 ⟨hw.1, hP, hD, hS, hw.2.2.2.2⟩
theorem g_ifnull {o : Option Nat} {f : Nat → Nat} {off : Int} {tgt : Nat} (G : CallFix p m c cc nL s args gtbl own) (hdg : decode cc pc = .ok (.ifnull off, 3)) (ht : (pc : Int) + off = (tgt : Int))
    (kt : o = none → W p l en R s m args below meth c H locs cells slots Q (F0 m tgt ls rest)) (kf : ¬ o = none → W p l en R s m args below meth c H locs cells slots Q (F0 m (pc + 3) ls rest)) : W p l en R s m args below meth c H locs cells slots Q (F0 m pc ls (va_rf (o.map f) :: rest)) := by
  cases o with
  | none => exact lv_ifnullN G.1 G.2.1 hdg ht (kt rfl)
  | some a => exact lv_ifnull G.1 G.2.1 hdg (kf (fun h => by cases h))
theorem g_ifnonnull {o : Option Nat} {f : Nat → Nat} {off : Int} {tgt : Nat} (G : CallFix p m c cc nL s args gtbl own) (hdg : decode cc pc = .ok (.ifnonnull off, 3)) (ht : (pc : Int) + off = (tgt : Int))
    (kt : ¬ o = none → W p l en R s m args below meth c H locs cells slots Q (F0 m tgt ls rest)) (kf : o = none → W p l en R s m args below meth c H locs cells slots Q (F0 m (pc + 3) ls rest)) : W p l en R s m args below meth c H locs cells slots Q (F0 m pc ls (va_rf (o.map f) :: rest)) := by
  cases o with
  | none => exact lv_ifnonnullN G.1 G.2.1 hdg (kf rfl)
  | some a => exact lv_ifnonnull G.1 G.2.1 hdg ht (kt (fun h => by cases h))
end GROW
end
section
/-! ===== A METHOD'S START, ITS ENDS, AND CALLS ===== -/
theorem gt_code {l : Launch} {y : MethodName} {cc : ByteArray} {maxL : Nat} {ret : Option FieldType} {fr lo : Nat} {D : va_G} {X : va_W} {ids : List (Nat × Nat)} {E : gE} {av : List Value} {g g' : Mem} {rv : Option Value} (hy : plainName y.cls = true) (hlen : (lg_sl av).length ≤ maxL)
    (body : ∀ (p : Program) (en : Env) (s : State) (m : MethodId) (below : List Frame) (meth : Method) (c : Code) (ls : Array Slot), CallFix p m c cc maxL s av.toArray gtbl y.cls → meth.sig.returnType = ret → meth.locks = false → GW D X ids E (gA X ids E s.heap.size) s g s.heap [] → lv_has ls maxL (lv_args 0 av) →
      W p l en { frames := fr, cells := 0, slots := 0, locals := lo } s m av.toArray below meth c s.heap [] 0 0 (MQ below (gQ rv (GP D X ids E g') (gA X ids E s.heap.size)) av.toArray s 0 0 (gA X ids E s.heap.size)) (F0 m 0 ls [])) :
    gMet l y cc maxL ret fr lo D X ids E av g rv g' := by
  intro sz
  refine Met.ofW (cc := cc) (maxL := maxL) (ret := ret) hy rfl ?_
  intro p e s m args below meth c s₁ B hml hv
  obtain ⟨rfl, hsz, ⟨hP, hK, hD0⟩, hE⟩ := hv
  have hts := atoms_spec (ws := .code y cc maxL ret :: gtbl) B.pre
  have hown : s.vm.findClass y.cls = some m.cls := findClass_of_methodNamed B.named
  have hlocks := B.notSynchronized
  subst hsz
  have hl := lv_entry av (n := maxL) hlen
  rw [lg_entry_eq]
  exact body p e s m below meth c _ ⟨B.exec, B.bytes, hml, hown, fun w h => hts w (List.mem_cons_of_mem _ h)⟩ B.returns hlocks ⟨hK, hP, ⟨hD0.1, fun k q hk => gA_in hk⟩, va_S.rf, hE⟩ hl
theorem GSA_blind {E : gE} {A : Nat → Prop} {a : Array Value} {U : State} {fr : JFrame} {mk : MethodId} (h : GSA E A U) : GSA E A (U.calling fr mk a) := by
  obtain ⟨h1, ⟨r1, r2, r3, r4⟩, h2, h3⟩ := h
  exact ⟨vk_S.moved (u := U) (Vm.Alike.refl U.vm) h1, ⟨vk_R.same (u := U) rfl r1, vk_R.same (u := U) rfl r2, vk_R.same (u := U) rfl r3, vk_R.same (u := U) rfl r4⟩, va_Z.moved (u := U) (Vm.Alike.refl U.vm) h2, va_Zq.moved (u := U) (Vm.Alike.refl U.vm) h3⟩
theorem GSA_call {E : gE} {A B : Nat → Prop} {s U : State} {H : Heap} {locs : List Loc} (h : GSA E A s) (hS : va_S A s.heap H locs) (hAB : ∀ q, B q → A q) (hU : U.heap = H) (hW : s.WarmedH U.vm) : GSA E B U := by
  obtain ⟨h1, ⟨r1, r2, r3, r4⟩, h2, h3⟩ := h
  refine ⟨?_, ⟨r1.warm hW, r2.warm hW, r3.warm hW, r4.warm hW⟩, ?_, ?_⟩
  · rw [hU]
    exact ((h1.kept hS.2.1).moved hW.alike).narrow hAB
  · rw [hU]
    exact ((h2.kept hS.2.1).moved hW.alike).narrow hAB
  · rw [hU]
    exact ((h3.kept hS.2.1).moved hW.alike).narrow hAB
section GCALL
variable {p : Program} {l : Launch} {en : Env} {R : Room} {s : State} {m : MethodId} {args : Array Value} {below : List Frame} {meth : Method} {c : Code} {H : Heap} {locs : List Loc} {cells slots : Nat} {Q : State → Prop}
variable {cc : ByteArray} {nL pc : Nat} {ls : Array Slot} {rest st0 : List Value} {own : String} {D : va_G} {X : va_W} {ids : List (Nat × Nat)} {E : gE} {A : Nat → Prop} {g g1 : Mem} {k i : Nat} {C : String} {T : u_T} {N : Nat} {ty : Nat → FieldType} {index : Nat}
theorem gQ_end {rv : Option Value} {t : State} (hw : GW D X ids E (gA X ids E s.heap.size) s g H locs) (ht : t.heap = H) (hW : s.WarmedH t.vm) : gQ rv (GP D X ids E g) (gA X ids E s.heap.size) args s (.returned rv) t :=
  ⟨⟨rfl, by rw [← ht] at hw; exact ⟨hw.2.1, va_K.moved hW.alike hw.1, hw.2.2.1.weaken (fun _ _ _ _ => trivial)⟩⟩, hw.2.2.2.1.F ht⟩
theorem g_iret {v : Int32} (G : CallFix p m c cc nL s args gtbl own) (hr : meth.sig.returnType = some .int) (hk : meth.locks = false) (hw : GW D X ids E (gA X ids E s.heap.size) s g H locs) (hdg : decode cc pc = .ok (.ireturn, 1)) :
    W p l en R s m args below meth c H locs 0 0 (MQ below (gQ (some (.int v)) (GP D X ids E g) (gA X ids E s.heap.size)) args s 0 0 (gA X ids E s.heap.size)) (F0 m pc ls [.int v]) :=
  W.iret (v := v) G.1 G.2.1 hr (fun t ht hW => gQ_end hw ht hW) hw.2.2.2.1.2.2 hdg hk
theorem g_zret {v : Int32} {rt : FieldType} (G : CallFix p m c cc nL s args gtbl own) (hr : meth.sig.returnType = some rt) (hn : narrow rt (.int v) = .int v) (hk : meth.locks = false) (hw : GW D X ids E (gA X ids E s.heap.size) s g H locs) (hdg : decode cc pc = .ok (.ireturn, 1)) :
    W p l en R s m args below meth c H locs 0 0 (MQ below (gQ (some (.int v)) (GP D X ids E g) (gA X ids E s.heap.size)) args s 0 0 (gA X ids E s.heap.size)) (F0 m pc ls [.int v]) :=
  W.zret (v := v) G.1 G.2.1 hr hn (fun t ht hW => gQ_end hw ht hW) hw.2.2.2.1.2.2 hdg hk
theorem g_lret {v : Int64} (G : CallFix p m c cc nL s args gtbl own) (hr : meth.sig.returnType = some .long) (hk : meth.locks = false) (hw : GW D X ids E (gA X ids E s.heap.size) s g H locs) (hdg : decode cc pc = .ok (.lreturn, 1)) :
    W p l en R s m args below meth c H locs 0 0 (MQ below (gQ (some (.long v)) (GP D X ids E g) (gA X ids E s.heap.size)) args s 0 0 (gA X ids E s.heap.size)) (F0 m pc ls [.long v]) :=
  W.lret (v := v) G.1 G.2.1 hr (fun t ht hW => gQ_end hw ht hW) hw.2.2.2.1.2.2 hdg hk
theorem g_vret (G : CallFix p m c cc nL s args gtbl own) (hr : meth.sig.returnType = none) (hk : meth.locks = false) (hw : GW D X ids E (gA X ids E s.heap.size) s g H locs) (hdg : decode cc pc = .ok (.return_, 1)) :
    W p l en R s m args below meth c H locs 0 0 (MQ below (gQ none (GP D X ids E g) (gA X ids E s.heap.size)) args s 0 0 (gA X ids E s.heap.size)) (F0 m pc ls []) :=
  W.vret G.1 G.2.1 hr (fun t ht hW => gQ_end hw ht hW) hw.2.2.2.1.2.2 hdg hk
theorem g_aret {a : Nat} {nm : String} (G : CallFix p m c cc nL s args gtbl own) (hr : meth.sig.returnType = some (.object nm)) (hk : meth.locks = false) (hw : GW D X ids E (gA X ids E s.heap.size) s g H locs) (hdg : decode cc pc = .ok (.areturn, 1)) :
    W p l en R s m args below meth c H locs 0 0 (MQ below (gQ (some (.ref a)) (GP D X ids E g) (gA X ids E s.heap.size)) args s 0 0 (gA X ids E s.heap.size)) (F0 m pc ls [.ref a]) :=
  W.aret (v := .ref a) G.1 G.2.1 hr (Or.inl ⟨_, rfl⟩) (Or.inr ⟨_, rfl⟩) (fun t ht hW => gQ_end hw ht hW) hw.2.2.2.1.2.2 hdg hk
theorem g_call {A0 A1 : Nat → Prop} {H0 : Heap} {a : Array Value} {mc ms : Nat} {free : Addr → Prop} {rv : Option Value} {B : State → Prop} (hr : va_Run p l en R s m args below meth c H locs cells slots mc ms (F0 m pc ls st0) rest (gQ rv B A1 a) free) (hS : va_S A0 H0 H locs) (hA : ∀ q, q < H.size → A1 q → A0 q) (hf : ∀ q, free q → A0 q)
    (kk : ∀ (t : State) (H1 : Heap) (locs1 : List Loc), t.heap = H1 → s.vm.Alike t.vm → B t → H.size ≤ H1.size → (∀ q : Nat, q < H.size → ¬ A1 q → H1[q]? = H[q]?) → va_S A0 H0 H1 locs1 → W p l en R s m args below meth c H1 locs1 (cells + mc) (slots + ms) Q (F0 m (pc + 3) ls (rv.toList ++ rest))) : W p l en R s m args below meth c H locs cells slots Q (F0 m pc ls st0) := by
  intro T hT X
  obtain ⟨v, st₀, t, T', L, h0, X', hL, e1, e2, ⟨⟨hv, hb⟩, hz, hk⟩, st⟩ := hr T hT X
  cases hv
  rw [h0] at hz hk
  obtain ⟨t2, a1, b1⟩ := kk t T'.heap (locs ++ L) e1.symm (by rw [← e2]; exact X'.warmed.alike) hb (by rw [e1]; exact hz) (fun q h1 h2 => by rw [e1]; exact hk q h1 h2)
    ⟨Nat.le_trans hS.1 (by rw [e1]; exact hz), fun q h1 h2 => by rw [e1, hk q (Nat.lt_of_lt_of_le h1 hS.1) (fun z => h2 (hA q (Nat.lt_of_lt_of_le h1 hS.1) z))]; exact hS.2.1 q h1 h2, fun q hq => by
      rcases List.mem_append.mp hq with h | h
      · exact hS.2.2 q h
      · exact hf _ (hL q h)⟩ T' rfl X'
  exact ⟨t2, st t2 a1, b1⟩
/-- what the tables say of a call of y by its name on an object of class C -/
def gV (own : String) (index : Nat) (C : String) (y : MethodName) (cy : ByteArray) (maxL : Nat) (ret : Option FieldType) (n : Nat) : Prop :=
  Cond.methodLink own index y ∈ gtbl ∧ Cond.instanceMethod y ∈ gtbl ∧ Cond.selects C y y ∈ gtbl ∧ Cond.initialized C ∈ gtbl ∧ Cond.code y cy maxL ret ∈ gtbl ∧ y.cls = C ∧ y.cls ≠ "java/lang/invoke/MethodHandle" ∧ y.cls ≠ "java/lang/invoke/VarHandle" ∧ (parseMethodDescriptor y.desc).map (fun d => d.parameters.length) = some n
/-- of a static call -/
def gS (own : String) (index : Nat) (y : MethodName) (cy : ByteArray) (maxL : Nat) (ret : Option FieldType) (n : Nat) : Prop :=
  Cond.methodLink own index y ∈ gtbl ∧ Cond.static y ∈ gtbl ∧ Cond.initialized y.cls ∈ gtbl ∧ Cond.code y cy maxL ret ∈ gtbl ∧ y.cls ≠ "java/lang/invoke/MethodHandle" ∧ y.cls ≠ "java/lang/invoke/VarHandle" ∧ (parseMethodDescriptor y.desc).map (fun d => d.parameters.length) = some n
theorem GP_blind {av : List Value} {sz : Nat} : FrameBlind (va_Pc av (fun U => U.heap.size = sz ∧ GP D X ids E g U ∧ GSA E (gA X ids E sz) U)) := by
  intro a U fr mk h
  obtain ⟨h1, h2, h3, h4⟩ := h
  exact ⟨h1, h2, GP.moved (u := U) rfl (Vm.Alike.refl U.vm) h3, GSA_blind h4⟩
theorem GW_pre {av : List Value} {U : State} (hw : GW D X ids E A s g H locs) (hA : ∀ q, gA X ids E H.size q → A q) (hU : U.heap = H) (hW : s.WarmedH U.vm) : va_Pc av (fun U => U.heap.size = H.size ∧ GP D X ids E g U ∧ GSA E (gA X ids E H.size) U) av.toArray U :=
  ⟨rfl, by rw [hU], ⟨by rw [hU]; exact hw.2.1, va_K.moved hW.alike hw.1, hw.2.2.1.weaken (fun _ _ _ _ => trivial)⟩, GSA_call hw.2.2.2.2 hw.2.2.2.1 hA hU hW⟩
theorem GW_recv (hw : GW D X ids E A s g H locs) (hC : gCls k C T N ty) (hid : (k, i) ∈ ids) : ∃ cell : Cell, H[E.1 k i]? = some cell ∧ cell.vm.isStatics = false ∧ s.vm.findClass C = some cell.cls := by
  obtain ⟨q, hq, he⟩ := gws_get (X := X) (e := E) (m := g) hid
  rw [gcell_obj hC] at he
  exact va_recv hw.1 hw.2.1 (ci := k) (q0 := X.length + q) hC.2.1 he
theorem GW_back {A1 : Nat → Prop} {t : State} {H1 : Heap} {locs1 : List Loc} (hw : GW D X ids E A s g H locs) (ht : t.heap = H1) (hvm : s.vm.Alike t.vm) (hB : GP D X ids E g1 t) (hA : va_D A (X ++ gws ids E g)) (hS : va_S A s.heap H1 locs1) : GW D X ids E A s g1 H1 locs1 := by
  refine ⟨hw.1, by rw [← ht]; exact hB.1, ⟨hB.2.2.1, fun k q hk => ?_⟩, hS, hw.2.2.2.2⟩
  rcases Nat.lt_or_ge k X.length with hl | hl
  · refine hA.2 k q ?_
    rw [List.getElem?_append_left hl] at hk ⊢
    exact hk
  · rw [List.getElem?_append_right hl] at hk
    unfold gws at hk
    rw [List.getElem?_map] at hk
    cases hz : ids[k - X.length]? with
    | none => rw [hz] at hk; cases hk
    | some z =>
      rw [hz] at hk
      cases hk
      exact hA.2 k (E.1 z.1 z.2, gcell E g z.1 z.2) (by
        rw [List.getElem?_append_right hl]
        unfold gws
        rw [List.getElem?_map, hz]
        rfl)
theorem g_callV {y : MethodName} {cy : ByteArray} {maxLy n fr lo : Nat} {ret : Option FieldType} {As : List Value} {rv : Option Value} (G : CallFix p m c cc nL s args gtbl own) (hw : GW D X ids E A s g H locs) (hA : ∀ q, gA X ids E H.size q → A q) (hC : gCls k C T N ty) (hid : (k, i) ∈ ids) (hy : gV own index C y cy maxLy ret n) (hM : gMet l y cy maxLy ret fr lo D X ids E (.ref (E.1 k i) :: As) g rv g1)
    (hls : ls.size = nL) (hn : As.length = n) (hst : st0 = As.reverse ++ .ref (E.1 k i) :: rest) (hrest : (rest.map fun v => v.category).sum ≤ 8) (hfr : fr + 1 ≤ R.frames) (hlo : 8 + (maxLy + 11) + lo ≤ R.locals) (hcs : cells ≤ R.cells ∧ slots ≤ R.slots) (hdg : decode cc pc = .ok (.invokevirtual index, 3))
    (kk : ∀ (H1 : Heap) (locs1 : List Loc), GW D X ids E A s g1 H1 locs1 → W p l en R s m args below meth c H1 locs1 cells slots Q (F0 m (pc + 3) ls (rv.toList ++ rest))) : W p l en R s m args below meth c H locs cells slots Q (F0 m pc ls st0) := by
  obtain ⟨y1, y2, y3, y4, y5, y6, y7, y8, y9⟩ := hy
  have hts := G.2.2.2.2
  refine g_call (va_runV (As := As) (rest := rest) G (hM H.size) ⟨callB_of n hts (gt_good (fun w h => h) y5) rfl rfl rfl (by rw [y6]; exact hts _ y4) (hts _ y1) ⟨y7, y8, y9⟩ ⟨hfr, hlo⟩, hts _ y2, hts _ y3⟩ ⟨GP_blind, GW_recv hw hC hid, fun U hU hW => GW_pre hw hA hU hW⟩ rfl hn hls hst (lv_room hrest) hdg hcs) hw.2.2.2.1 (fun q _ h => hA q h) hA (fun t H1 locs1 ht hvm hB hz1 hk1 hS => ?_)
  exact kk H1 locs1 (GW_back (A1 := A) hw ht hvm hB hw.2.2.1 hS)
theorem g_callS {y : MethodName} {cy : ByteArray} {maxLy n fr lo : Nat} {ret : Option FieldType} {As : List Value} {rv : Option Value} (G : CallFix p m c cc nL s args gtbl own) (hw : GW D X ids E A s g H locs) (hA : ∀ q, gA X ids E H.size q → A q) (hy : gS own index y cy maxLy ret n) (hM : gMet l y cy maxLy ret fr lo D X ids E As g rv g1)
    (hls : ls.size = nL) (hn : As.length = n) (hst : st0 = As.reverse ++ rest) (hrest : (rest.map fun v => v.category).sum ≤ 8) (hfr : fr + 1 ≤ R.frames) (hlo : 8 + (maxLy + 11) + lo ≤ R.locals) (hcs : cells ≤ R.cells ∧ slots ≤ R.slots) (hdg : decode cc pc = .ok (.invokestatic index, 3))
    (kk : ∀ (H1 : Heap) (locs1 : List Loc), GW D X ids E A s g1 H1 locs1 → W p l en R s m args below meth c H1 locs1 cells slots Q (F0 m (pc + 3) ls (rv.toList ++ rest))) : W p l en R s m args below meth c H locs cells slots Q (F0 m pc ls st0) := by
  obtain ⟨y1, y3, y4, y5, y7, y8, y9⟩ := hy
  have hts := G.2.2.2.2
  refine g_call (va_runS (As := As) (rest := rest) G (hM H.size) ⟨callB_of n hts (gt_good (fun w h => h) y5) rfl rfl rfl (hts _ y4) (hts _ y1) ⟨y7, y8, y9⟩ ⟨hfr, hlo⟩, hts _ y3⟩ ⟨GP_blind, fun U hU hW => GW_pre hw hA hU hW⟩ rfl hn hls hst (lv_room hrest) hdg hcs) hw.2.2.2.1 (fun q _ h => hA q h) hA (fun t H1 locs1 ht hvm hB hz1 hk1 hS => ?_)
  exact kk H1 locs1 (GW_back (A1 := A) hw ht hvm hB hw.2.2.1 hS)
end GCALL
end
section
/-! ===== THE TWO WORLDS: the class's things and the reference's, and the ends of a method with what its function answers ===== -/
def fixC : List (Nat × Nat) := [(9, 0), (6, 0), (20, 0), (7, 0), (5, 0), (8, 0), (21, 0), (22, 0), (1, 0), (23, 0), (24, 0), (25, 0), (26, 0), (27, 0), (2, 0), (28, 0), (29, 0), (30, 0), (4, 0), (4, 1), (31, 0), (31, 1), (32, 0), (32, 1)]
def idsC : List (Nat × Nat) := fixC ++ ((List.range 400).map (fun o => (3, o)) ++ (List.range 350).map (fun b => (0, b)))
def idsM : List (Nat × Nat) := [(10, 0), (101, 0), (111, 0), (112, 0), (113, 0), (114, 0), (115, 0), (117, 0), (118, 0), (119, 0), (120, 0), (121, 0), (123, 0), (126, 0), (127, 0), (128, 0), (129, 0), (130, 0), (132, 0), (133, 0), (134, 0), (135, 0), (136, 0), (137, 0), (138, 0), (139, 0), (140, 0), (141, 0), (142, 0), (143, 0), (144, 0), (145, 0), (146, 0), (150, 0)]
theorem iC_f {z : Nat × Nat} (h : z ∈ fixC) : z ∈ idsC := List.mem_append_left _ h
theorem iC_3 {o : Nat} (h : o < 400) : (3, o) ∈ idsC := List.mem_append_right _ (List.mem_append_left _ (List.mem_map.mpr ⟨o, List.mem_range.mpr h, rfl⟩))
theorem iC_0 {b : Nat} (h : b < 350) : (0, b) ∈ idsC := List.mem_append_right _ (List.mem_append_right _ (List.mem_map.mpr ⟨b, List.mem_range.mpr h, rfl⟩))
theorem iC_4 {q : Nat} (h : q < 2) : (4, q) ∈ idsC := by
  rcases (show q = 0 ∨ q = 1 by omega) with rfl | rfl
  · exact iC_f (by decide)
  · exact iC_f (by decide)
theorem iC_31 {q : Nat} (h : q < 2) : (31, q) ∈ idsC := by
  rcases (show q = 0 ∨ q = 1 by omega) with rfl | rfl
  · exact iC_f (by decide)
  · exact iC_f (by decide)
theorem iC_32 {q : Nat} (h : q < 2) : (32, q) ∈ idsC := by
  rcases (show q = 0 ∨ q = 1 by omega) with rfl | rfl
  · exact iC_f (by decide)
  · exact iC_f (by decide)
theorem iC_9 : (9, 0) ∈ idsC := iC_f (by decide)
theorem iC_6 : (6, 0) ∈ idsC := iC_f (by decide)
theorem iC_20 : (20, 0) ∈ idsC := iC_f (by decide)
theorem iC_7 : (7, 0) ∈ idsC := iC_f (by decide)
theorem iC_5 : (5, 0) ∈ idsC := iC_f (by decide)
theorem iC_8 : (8, 0) ∈ idsC := iC_f (by decide)
theorem iC_21 : (21, 0) ∈ idsC := iC_f (by decide)
theorem iC_22 : (22, 0) ∈ idsC := iC_f (by decide)
theorem iC_1 : (1, 0) ∈ idsC := iC_f (by decide)
theorem iC_23 : (23, 0) ∈ idsC := iC_f (by decide)
theorem iC_24 : (24, 0) ∈ idsC := iC_f (by decide)
theorem iC_25 : (25, 0) ∈ idsC := iC_f (by decide)
theorem iC_26 : (26, 0) ∈ idsC := iC_f (by decide)
theorem iC_27 : (27, 0) ∈ idsC := iC_f (by decide)
theorem iC_2 : (2, 0) ∈ idsC := iC_f (by decide)
theorem iC_28 : (28, 0) ∈ idsC := iC_f (by decide)
theorem iC_29 : (29, 0) ∈ idsC := iC_f (by decide)
theorem iC_30 : (30, 0) ∈ idsC := iC_f (by decide)
theorem iM_10 : (10, 0) ∈ idsM := by decide
theorem iM_101 : (101, 0) ∈ idsM := by decide
theorem iM_111 : (111, 0) ∈ idsM := by decide
theorem iM_112 : (112, 0) ∈ idsM := by decide
theorem iM_113 : (113, 0) ∈ idsM := by decide
theorem iM_114 : (114, 0) ∈ idsM := by decide
theorem iM_115 : (115, 0) ∈ idsM := by decide
theorem iM_117 : (117, 0) ∈ idsM := by decide
theorem iM_118 : (118, 0) ∈ idsM := by decide
theorem iM_119 : (119, 0) ∈ idsM := by decide
theorem iM_120 : (120, 0) ∈ idsM := by decide
theorem iM_121 : (121, 0) ∈ idsM := by decide
theorem iM_123 : (123, 0) ∈ idsM := by decide
theorem iM_126 : (126, 0) ∈ idsM := by decide
theorem iM_127 : (127, 0) ∈ idsM := by decide
theorem iM_128 : (128, 0) ∈ idsM := by decide
theorem iM_129 : (129, 0) ∈ idsM := by decide
theorem iM_130 : (130, 0) ∈ idsM := by decide
theorem iM_132 : (132, 0) ∈ idsM := by decide
theorem iM_133 : (133, 0) ∈ idsM := by decide
theorem iM_134 : (134, 0) ∈ idsM := by decide
theorem iM_135 : (135, 0) ∈ idsM := by decide
theorem iM_136 : (136, 0) ∈ idsM := by decide
theorem iM_137 : (137, 0) ∈ idsM := by decide
theorem iM_138 : (138, 0) ∈ idsM := by decide
theorem iM_139 : (139, 0) ∈ idsM := by decide
theorem iM_140 : (140, 0) ∈ idsM := by decide
theorem iM_141 : (141, 0) ∈ idsM := by decide
theorem iM_142 : (142, 0) ∈ idsM := by decide
theorem iM_143 : (143, 0) ∈ idsM := by decide
theorem iM_144 : (144, 0) ∈ idsM := by decide
theorem iM_145 : (145, 0) ∈ idsM := by decide
theorem iM_146 : (146, 0) ∈ idsM := by decide
theorem iM_150 : (150, 0) ∈ idsM := by decide
theorem C_0 : gCls 0 RX0 TX0 7 tyX0 := ⟨by decide, rfl, by decide +kernel, tyX0_ok, nmX0, rfl⟩
theorem C_1 : gCls 1 RX1 TX1 6 tyX1 := ⟨by decide, rfl, by decide +kernel, tyX1_ok, nmX1, rfl⟩
theorem C_2 : gCls 2 RX2 TX2 6 tyX2 := ⟨by decide, rfl, by decide +kernel, tyX2_ok, nmX2, rfl⟩
theorem C_3 : gCls 3 RX4 TX4 15 tyX4 := ⟨by decide, rfl, by decide +kernel, tyX4_ok, nmX4, rfl⟩
theorem C_4 : gCls 4 RX5 TX5 4 tyX5 := ⟨by decide, rfl, by decide +kernel, tyX5_ok, nmX5, rfl⟩
theorem C_5 : gCls 5 RX6 TX6 2 tyX6 := ⟨by decide, rfl, by decide +kernel, tyX6_ok, nmX6, rfl⟩
theorem C_6 : gCls 6 RX7 TX7 2 tyX7 := ⟨by decide, rfl, by decide +kernel, tyX7_ok, nmX7, rfl⟩
theorem C_7 : gCls 7 RX8 TX8 7 tyX8 := ⟨by decide, rfl, by decide +kernel, tyX8_ok, nmX8, rfl⟩
theorem C_8 : gCls 8 RX9 TX9 6 tyX9 := ⟨by decide, rfl, by decide +kernel, tyX9_ok, nmX9, rfl⟩
theorem C_9 : gCls 9 RX10 TX10 6 tyX10 := ⟨by decide, rfl, by decide +kernel, tyX10_ok, nmX10, rfl⟩
theorem C_10 : gCls 10 RX11 TX11 51 tyX11 := ⟨by decide, rfl, by decide +kernel, tyX11_ok, nmX11, rfl⟩
theorem ol_2 : ∀ j2, (gly 2)[j2]? = some 1 → j2 = 5 := by
  intro j2 h
  have hl : j2 < 6 := (List.getElem?_eq_some_iff.mp h).1
  match j2, hl, h with
  | 5, _, _ => rfl
theorem ol_10 : ∀ j2, (gly 10)[j2]? = some 1 → j2 = 48 := by
  have key : ∀ j2, j2 < 51 → (gly 10)[j2]? = some 1 → j2 = 48 := by decide +kernel
  intro j2 h
  exact key j2 (List.getElem?_eq_some_iff.mp h).1 h
theorem v_3 {q j : Nat} {x : Int32} (hq : q < 2) (h : ix x 200 = some j) : 200 * q + j < 400 := by
  have := ix_lt h
  omega
theorem v_0 {q j : Nat} {x : Int32} (hq : q < 2) (h : ix x 175 = some j) : 175 * q + j < 350 := by
  have := ix_lt h
  omega
theorem zn {v : Int32} (h : v = 0 ∨ v = 1) : narrow .boolean (.int v) = .int v := by
  rcases h with rfl | rfl <;> rfl
theorem zv {v : Int32} (h : v = 0 ∨ v = 1) : vp_nar .boolean v = v := by
  rcases h with rfl | rfl <;> rfl
def imax (x y : Int32) : Int32 := if x < y then y else x
def lmin (x y : Int64) : Int64 := if y < x then y else x
theorem sw_out {x : Int32} {lo n : Nat} (h1 : lo = 0) (h2 : n < 1000) (h : ∀ k, k < n → ¬ x = Int32.ofNat k) : x.toInt < (lo : Int) ∨ ((n : Int) - 1) < x.toInt := by
  subst h1
  rcases Int.lt_or_le x.toInt 0 with q | q
  · exact Or.inl q
  · right
    rcases Int.lt_or_le ((n : Int) - 1) x.toInt with r | r
    · exact r
    · exfalso
      refine h x.toInt.toNat (by omega) ?_
      obtain ⟨j, hj, rfl⟩ := nI_of (x := x) (fun z => by have := Int32.lt_iff_toInt_lt.mp z; simp at this; omega)
      rw [nI_toInt hj]
      rfl
section GROW2
variable {p : Program} {l : Launch} {en : Env} {R : Room} {s : State} {m : MethodId} {args : Array Value} {below : List Frame} {meth : Method} {c : Code} {H : Heap} {locs : List Loc} {cells slots : Nat} {Q : State → Prop}
variable {cc : ByteArray} {nL pc : Nat} {ls : Array Slot} {rest st0 : List Value} {own : String} {D : va_G} {X : va_W} {ids : List (Nat × Nat)} {E : gE} {A : Nat → Prop} {g g1 g' : Mem} {k i : Nat} {C : String} {T : u_T} {N : Nat} {ty : Nat → FieldType} {index : Nat}
theorem g_iretW {v r : Int32} (G : CallFix p m c cc nL s args gtbl own) (hr : meth.sig.returnType = some .int) (hk : meth.locks = false) (hf : (some (v, g) : Option (Int32 × Mem)) = some (r, g')) (hw : GW D X ids E (gA X ids E s.heap.size) s g H locs) (hdg : decode cc pc = .ok (.ireturn, 1)) :
    W p l en R s m args below meth c H locs 0 0 (MQ below (gQ (some (.int r)) (GP D X ids E g') (gA X ids E s.heap.size)) args s 0 0 (gA X ids E s.heap.size)) (F0 m pc ls [.int v]) := by
  cases hf
  exact g_iret G hr hk hw hdg
theorem g_iretR {v r : Int32} (G : CallFix p m c cc nL s args gtbl own) (hr : meth.sig.returnType = some .int) (hk : meth.locks = false) (hf : (some v : Option Int32) = some r) (hw : GW D X ids E (gA X ids E s.heap.size) s g H locs) (hdg : decode cc pc = .ok (.ireturn, 1)) :
    W p l en R s m args below meth c H locs 0 0 (MQ below (gQ (some (.int r)) (GP D X ids E g) (gA X ids E s.heap.size)) args s 0 0 (gA X ids E s.heap.size)) (F0 m pc ls [.int v]) := by
  cases hf
  exact g_iret G hr hk hw hdg
theorem g_zretW {v r : Int32} {rt : FieldType} (G : CallFix p m c cc nL s args gtbl own) (hr : meth.sig.returnType = some rt) (hn : narrow rt (.int v) = .int v) (hk : meth.locks = false) (hf : (some (v, g) : Option (Int32 × Mem)) = some (r, g')) (hw : GW D X ids E (gA X ids E s.heap.size) s g H locs) (hdg : decode cc pc = .ok (.ireturn, 1)) :
    W p l en R s m args below meth c H locs 0 0 (MQ below (gQ (some (.int r)) (GP D X ids E g') (gA X ids E s.heap.size)) args s 0 0 (gA X ids E s.heap.size)) (F0 m pc ls [.int v]) := by
  cases hf
  exact g_zret G hr hn hk hw hdg
theorem g_zretR {v r : Int32} {rt : FieldType} (G : CallFix p m c cc nL s args gtbl own) (hr : meth.sig.returnType = some rt) (hn : narrow rt (.int v) = .int v) (hk : meth.locks = false) (hf : (some v : Option Int32) = some r) (hw : GW D X ids E (gA X ids E s.heap.size) s g H locs) (hdg : decode cc pc = .ok (.ireturn, 1)) :
    W p l en R s m args below meth c H locs 0 0 (MQ below (gQ (some (.int r)) (GP D X ids E g) (gA X ids E s.heap.size)) args s 0 0 (gA X ids E s.heap.size)) (F0 m pc ls [.int v]) := by
  cases hf
  exact g_zret G hr hn hk hw hdg
theorem g_lretR {v r : Int64} (G : CallFix p m c cc nL s args gtbl own) (hr : meth.sig.returnType = some .long) (hk : meth.locks = false) (hf : (some v : Option Int64) = some r) (hw : GW D X ids E (gA X ids E s.heap.size) s g H locs) (hdg : decode cc pc = .ok (.lreturn, 1)) :
    W p l en R s m args below meth c H locs 0 0 (MQ below (gQ (some (.long r)) (GP D X ids E g) (gA X ids E s.heap.size)) args s 0 0 (gA X ids E s.heap.size)) (F0 m pc ls [.long v]) := by
  cases hf
  exact g_lret G hr hk hw hdg
theorem g_lretW {v r : Int64} (G : CallFix p m c cc nL s args gtbl own) (hr : meth.sig.returnType = some .long) (hk : meth.locks = false) (hf : (some (v, g) : Option (Int64 × Mem)) = some (r, g')) (hw : GW D X ids E (gA X ids E s.heap.size) s g H locs) (hdg : decode cc pc = .ok (.lreturn, 1)) :
    W p l en R s m args below meth c H locs 0 0 (MQ below (gQ (some (.long r)) (GP D X ids E g') (gA X ids E s.heap.size)) args s 0 0 (gA X ids E s.heap.size)) (F0 m pc ls [.long v]) := by
  cases hf
  exact g_lret G hr hk hw hdg
theorem g_vretW (G : CallFix p m c cc nL s args gtbl own) (hr : meth.sig.returnType = none) (hk : meth.locks = false) (hf : (some g : Option Mem) = some g') (hw : GW D X ids E (gA X ids E s.heap.size) s g H locs) (hdg : decode cc pc = .ok (.return_, 1)) :
    W p l en R s m args below meth c H locs 0 0 (MQ below (gQ none (GP D X ids E g') (gA X ids E s.heap.size)) args s 0 0 (gA X ids E s.heap.size)) (F0 m pc ls []) := by
  cases hf
  exact g_vret G hr hk hw hdg
theorem g_vretR (G : CallFix p m c cc nL s args gtbl own) (hr : meth.sig.returnType = none) (hk : meth.locks = false) (hw : GW D X ids E (gA X ids E s.heap.size) s g H locs) (hdg : decode cc pc = .ok (.return_, 1)) :
    W p l en R s m args below meth c H locs 0 0 (MQ below (gQ none (GP D X ids E g) (gA X ids E s.heap.size)) args s 0 0 (gA X ids E s.heap.size)) (F0 m pc ls []) := g_vret G hr hk hw hdg
theorem g_aretW {v r : Nat} {nm : String} (G : CallFix p m c cc nL s args gtbl own) (hr : meth.sig.returnType = some (.object nm)) (hk : meth.locks = false) (hf : (some (v, g) : Option (Nat × Mem)) = some (r, g')) (hw : GW D X ids E (gA X ids E s.heap.size) s g H locs) (hdg : decode cc pc = .ok (.areturn, 1)) :
    W p l en R s m args below meth c H locs 0 0 (MQ below (gQ (some (.ref (E.1 k r))) (GP D X ids E g') (gA X ids E s.heap.size)) args s 0 0 (gA X ids E s.heap.size)) (F0 m pc ls [.ref (E.1 k v)]) := by
  cases hf
  exact g_aret G hr hk hw hdg
theorem g_callV1 {y : MethodName} {cy : ByteArray} {maxLy n fr lo : Nat} {ret : Option FieldType} {As : List Value} {v : Value} (G : CallFix p m c cc nL s args gtbl own) (hw : GW D X ids E A s g H locs) (hA : ∀ q, gA X ids E H.size q → A q) (hC : gCls k C T N ty) (hid : (k, i) ∈ ids) (hy : gV own index C y cy maxLy ret n) (hM : gMet l y cy maxLy ret fr lo D X ids E (.ref (E.1 k i) :: As) g (some v) g1)
    (hls : ls.size = nL) (hn : As.length = n) (hst : st0 = As.reverse ++ .ref (E.1 k i) :: rest) (hrest : (rest.map fun v => v.category).sum ≤ 8) (hfr : fr + 1 ≤ R.frames) (hlo : 8 + (maxLy + 11) + lo ≤ R.locals) (hcs : cells ≤ R.cells ∧ slots ≤ R.slots) (hdg : decode cc pc = .ok (.invokevirtual index, 3))
    (kk : ∀ (H1 : Heap) (locs1 : List Loc), GW D X ids E A s g1 H1 locs1 → W p l en R s m args below meth c H1 locs1 cells slots Q (F0 m (pc + 3) ls (v :: rest))) : W p l en R s m args below meth c H locs cells slots Q (F0 m pc ls st0) := g_callV G hw hA hC hid hy hM hls hn hst hrest hfr hlo hcs hdg kk
theorem g_callV0 {y : MethodName} {cy : ByteArray} {maxLy n fr lo : Nat} {ret : Option FieldType} {As : List Value} (G : CallFix p m c cc nL s args gtbl own) (hw : GW D X ids E A s g H locs) (hA : ∀ q, gA X ids E H.size q → A q) (hC : gCls k C T N ty) (hid : (k, i) ∈ ids) (hy : gV own index C y cy maxLy ret n) (hM : gMet l y cy maxLy ret fr lo D X ids E (.ref (E.1 k i) :: As) g none g1)
    (hls : ls.size = nL) (hn : As.length = n) (hst : st0 = As.reverse ++ .ref (E.1 k i) :: rest) (hrest : (rest.map fun v => v.category).sum ≤ 8) (hfr : fr + 1 ≤ R.frames) (hlo : 8 + (maxLy + 11) + lo ≤ R.locals) (hcs : cells ≤ R.cells ∧ slots ≤ R.slots) (hdg : decode cc pc = .ok (.invokevirtual index, 3))
    (kk : ∀ (H1 : Heap) (locs1 : List Loc), GW D X ids E A s g1 H1 locs1 → W p l en R s m args below meth c H1 locs1 cells slots Q (F0 m (pc + 3) ls rest)) : W p l en R s m args below meth c H locs cells slots Q (F0 m pc ls st0) := g_callV G hw hA hC hid hy hM hls hn hst hrest hfr hlo hcs hdg kk
theorem g_callS1 {y : MethodName} {cy : ByteArray} {maxLy n fr lo : Nat} {ret : Option FieldType} {As : List Value} {v : Value} (G : CallFix p m c cc nL s args gtbl own) (hw : GW D X ids E A s g H locs) (hA : ∀ q, gA X ids E H.size q → A q) (hy : gS own index y cy maxLy ret n) (hM : gMet l y cy maxLy ret fr lo D X ids E As g (some v) g1)
    (hls : ls.size = nL) (hn : As.length = n) (hst : st0 = As.reverse ++ rest) (hrest : (rest.map fun v => v.category).sum ≤ 8) (hfr : fr + 1 ≤ R.frames) (hlo : 8 + (maxLy + 11) + lo ≤ R.locals) (hcs : cells ≤ R.cells ∧ slots ≤ R.slots) (hdg : decode cc pc = .ok (.invokestatic index, 3))
    (kk : ∀ (H1 : Heap) (locs1 : List Loc), GW D X ids E A s g1 H1 locs1 → W p l en R s m args below meth c H1 locs1 cells slots Q (F0 m (pc + 3) ls (v :: rest))) : W p l en R s m args below meth c H locs cells slots Q (F0 m pc ls st0) := g_callS G hw hA hy hM hls hn hst hrest hfr hlo hcs hdg kk
/-- Math.max, Math.min -/
def gMx (own : String) (index : Nat) : Prop := Cond.methodLink own index Lib.Math.max.name ∈ gtbl ∧ Cond.static Lib.Math.max.name ∈ gtbl ∧ Cond.initialized "java/lang/Math" ∈ gtbl ∧ Cond.code Lib.Math.max.name Lib.Math.max.code 2 (some .int) ∈ gtbl
def gMn (own : String) (index : Nat) : Prop := Cond.methodLink own index Lib.MathLoose.min_long.x ∈ gtbl ∧ Cond.static Lib.MathLoose.min_long.x ∈ gtbl ∧ Cond.initialized "java/lang/Math" ∈ gtbl ∧ Cond.code Lib.MathLoose.min_long.x Lib.MathLoose.min_long.code 4 (some .long) ∈ gtbl
theorem g_max {x y : Int32} (G : CallFix p m c cc nL s args gtbl own) (hls : ls.size = nL) (hm : gMx own index) (hrest : (rest.map fun v => v.category).sum ≤ 8) (hdg : decode cc pc = .ok (.invokestatic index, 3))
    (hfr : 1 ≤ R.frames) (hlo : 24 ≤ R.locals) (hc : cells ≤ R.cells) (hs : slots ≤ R.slots)
    (kk : W p l en R s m args below meth c H locs cells slots Q (F0 m (pc + 3) ls (.int (imax x y) :: rest))) : W p l en R s m args below meth c H locs cells slots Q (F0 m pc ls (.int y :: .int x :: rest)) := by
  have hts := G.2.2.2.2
  exact va_mmax G.1 G.2.1 (G.2.2.1.trans hls.symm) G.2.2.2.1 (hts _ hm.1) (hts _ hm.2.1) (hts _ hm.2.2.1) (hts _ hm.2.2.2) hfr (by omega) hc hs hdg kk
theorem g_minl {x y : Int64} (G : CallFix p m c cc nL s args gtbl own) (hls : ls.size = nL) (hm : gMn own index) (hrest : (rest.map fun v => v.category).sum ≤ 8) (hdg : decode cc pc = .ok (.invokestatic index, 3))
    (hfr : 1 ≤ R.frames) (hlo : 26 ≤ R.locals) (hc : cells ≤ R.cells) (hs : slots ≤ R.slots)
    (kk : W p l en R s m args below meth c H locs cells slots Q (F0 m (pc + 3) ls (.long (lmin x y) :: rest))) : W p l en R s m args below meth c H locs cells slots Q (F0 m pc ls (.long y :: .long x :: rest)) := by
  have hts := G.2.2.2.2
  exact va_mmin_long G.1 G.2.1 (G.2.2.1.trans hls.symm) G.2.2.2.1 (hts _ hm.1) (hts _ hm.2.1) (hts _ hm.2.2.1) (hts _ hm.2.2.2) hfr (by omega) hc hs hdg kk
end GROW2
end
section
/-! what the tables say of the links (printed by program) -/
theorem cl_X11_123 : Cond.constantLong RX11 123 (255 : Int64) ∈ gtbl := gt_in 1271 (by decide +kernel) (by decide +kernel)
theorem cl_X11_150 : Cond.constantLong RX11 150 (26982 : Int64) ∈ gtbl := gt_in 1303 (by decide +kernel) (by decide +kernel)
theorem cl_X11_152 : Cond.constantLong RX11 152 (1701606245 : Int64) ∈ gtbl := gt_in 1304 (by decide +kernel) (by decide +kernel)
theorem cl_X11_154 : Cond.constantLong RX11 154 (512852847717 : Int64) ∈ gtbl := gt_in 1305 (by decide +kernel) (by decide +kernel)
theorem cl_X11_189 : Cond.constantLong RX11 189 (10 : Int64) ∈ gtbl := gt_in 1341 (by decide +kernel) (by decide +kernel)
theorem cl_X11_191 : Cond.constantLong RX11 191 (48 : Int64) ∈ gtbl := gt_in 1342 (by decide +kernel) (by decide +kernel)
theorem cl_X11_193 : Cond.constantLong RX11 193 (9999999999 : Int64) ∈ gtbl := gt_in 1343 (by decide +kernel) (by decide +kernel)
theorem cl_X11_195 : Cond.constantLong RX11 195 (2147483647 : Int64) ∈ gtbl := gt_in 1344 (by decide +kernel) (by decide +kernel)
theorem cl_X6_50 : Cond.constantLong RX6 50 (10 : Int64) ∈ gtbl := gt_in 630 (by decide +kernel) (by decide +kernel)
theorem cl_X6_52 : Cond.constantLong RX6 52 (48 : Int64) ∈ gtbl := gt_in 631 (by decide +kernel) (by decide +kernel)
theorem cl_X6_54 : Cond.constantLong RX6 54 (2147483648 : Int64) ∈ gtbl := gt_in 632 (by decide +kernel) (by decide +kernel)
theorem cl_X8_192 : Cond.constantLong RX8 192 (2147483647 : Int64) ∈ gtbl := gt_in 636 (by decide +kernel) (by decide +kernel)
theorem fl_X0_15 : Cond.fieldLink RX0 15 (TX0 1).1 (TX0 1).2.1 (TX0 1).2.2.1 ∈ gtbl := gt_in 352 (by decide +kernel) (by decide +kernel)
theorem fl_X0_18 : Cond.fieldLink RX0 18 (TX0 2).1 (TX0 2).2.1 (TX0 2).2.2.1 ∈ gtbl := gt_in 357 (by decide +kernel) (by decide +kernel)
theorem fl_X0_24 : Cond.fieldLink RX0 24 (TX0 3).1 (TX0 3).2.1 (TX0 3).2.2.1 ∈ gtbl := gt_in 361 (by decide +kernel) (by decide +kernel)
theorem fl_X0_27 : Cond.fieldLink RX0 27 (TX0 4).1 (TX0 4).2.1 (TX0 4).2.2.1 ∈ gtbl := gt_in 365 (by decide +kernel) (by decide +kernel)
theorem fl_X0_30 : Cond.fieldLink RX0 30 (TX0 5).1 (TX0 5).2.1 (TX0 5).2.2.1 ∈ gtbl := gt_in 369 (by decide +kernel) (by decide +kernel)
theorem fl_X0_9 : Cond.fieldLink RX0 9 (TX0 0).1 (TX0 0).2.1 (TX0 0).2.2.1 ∈ gtbl := gt_in 348 (by decide +kernel) (by decide +kernel)
theorem fl_X10_12 : Cond.fieldLink RX10 12 (TX10 0).1 (TX10 0).2.1 (TX10 0).2.2.1 ∈ gtbl := gt_in 422 (by decide +kernel) (by decide +kernel)
theorem fl_X10_167 : Cond.fieldLink RX10 167 (TX2 4).1 (TX2 4).2.1 (TX2 4).2.2.1 ∈ gtbl := gt_in 245 (by decide +kernel) (by decide +kernel)
theorem fl_X10_170 : Cond.fieldLink RX10 170 (TX2 5).1 (TX2 5).2.1 (TX2 5).2.2.1 ∈ gtbl := gt_in 247 (by decide +kernel) (by decide +kernel)
theorem fl_X10_21 : Cond.fieldLink RX10 21 (TX10 1).1 (TX10 1).2.1 (TX10 1).2.2.1 ∈ gtbl := gt_in 423 (by decide +kernel) (by decide +kernel)
theorem fl_X10_28 : Cond.fieldLink RX10 28 (TX10 2).1 (TX10 2).2.1 (TX10 2).2.2.1 ∈ gtbl := gt_in 424 (by decide +kernel) (by decide +kernel)
theorem fl_X10_35 : Cond.fieldLink RX10 35 (TX10 3).1 (TX10 3).2.1 (TX10 3).2.2.1 ∈ gtbl := gt_in 425 (by decide +kernel) (by decide +kernel)
theorem fl_X10_42 : Cond.fieldLink RX10 42 (TX10 4).1 (TX10 4).2.1 (TX10 4).2.2.1 ∈ gtbl := gt_in 426 (by decide +kernel) (by decide +kernel)
theorem fl_X10_46 : Cond.fieldLink RX10 46 (TX10 5).1 (TX10 5).2.1 (TX10 5).2.2.1 ∈ gtbl := gt_in 427 (by decide +kernel) (by decide +kernel)
theorem fl_X10_83 : Cond.fieldLink RX10 83 (TX5 2).1 (TX5 2).2.1 (TX5 2).2.2.1 ∈ gtbl := gt_in 403 (by decide +kernel) (by decide +kernel)
theorem fl_X10_86 : Cond.fieldLink RX10 86 (TX8 5).1 (TX8 5).2.1 (TX8 5).2.2.1 ∈ gtbl := gt_in 187 (by decide +kernel) (by decide +kernel)
theorem fl_X10_89 : Cond.fieldLink RX10 89 (TX8 6).1 (TX8 6).2.1 (TX8 6).2.2.1 ∈ gtbl := gt_in 189 (by decide +kernel) (by decide +kernel)
theorem fl_X11_102 : Cond.fieldLink RX11 102 (TX11 44).1 (TX11 44).2.1 (TX11 44).2.2.1 ∈ gtbl := gt_in 1152 (by decide +kernel) (by decide +kernel)
theorem fl_X11_105 : Cond.fieldLink RX11 105 (TX11 45).1 (TX11 45).2.1 (TX11 45).2.2.1 ∈ gtbl := gt_in 1153 (by decide +kernel) (by decide +kernel)
theorem fl_X11_108 : Cond.fieldLink RX11 108 (TX11 46).1 (TX11 46).2.1 (TX11 46).2.2.1 ∈ gtbl := gt_in 1154 (by decide +kernel) (by decide +kernel)
theorem fl_X11_111 : Cond.fieldLink RX11 111 (TX11 50).1 (TX11 50).2.1 (TX11 50).2.2.1 ∈ gtbl := gt_in 1158 (by decide +kernel) (by decide +kernel)
theorem fl_X11_117 : Cond.fieldLink RX11 117 (TX11 0).1 (TX11 0).2.1 (TX11 0).2.2.1 ∈ gtbl := gt_in 1108 (by decide +kernel) (by decide +kernel)
theorem fl_X11_120 : Cond.fieldLink RX11 120 (TX11 2).1 (TX11 2).2.1 (TX11 2).2.2.1 ∈ gtbl := gt_in 1110 (by decide +kernel) (by decide +kernel)
theorem fl_X11_125 : Cond.fieldLink RX11 125 (TX11 3).1 (TX11 3).2.1 (TX11 3).2.2.1 ∈ gtbl := gt_in 1111 (by decide +kernel) (by decide +kernel)
theorem fl_X11_128 : Cond.fieldLink RX11 128 (TX11 5).1 (TX11 5).2.1 (TX11 5).2.2.1 ∈ gtbl := gt_in 1113 (by decide +kernel) (by decide +kernel)
theorem fl_X11_13 : Cond.fieldLink RX11 13 (TX11 4).1 (TX11 4).2.1 (TX11 4).2.2.1 ∈ gtbl := gt_in 1112 (by decide +kernel) (by decide +kernel)
theorem fl_X11_156 : Cond.fieldLink RX11 156 (TX11 24).1 (TX11 24).2.1 (TX11 24).2.2.1 ∈ gtbl := gt_in 1132 (by decide +kernel) (by decide +kernel)
theorem fl_X11_159 : Cond.fieldLink RX11 159 (TX11 22).1 (TX11 22).2.1 (TX11 22).2.2.1 ∈ gtbl := gt_in 1130 (by decide +kernel) (by decide +kernel)
theorem fl_X11_162 : Cond.fieldLink RX11 162 (TX11 16).1 (TX11 16).2.1 (TX11 16).2.2.1 ∈ gtbl := gt_in 1124 (by decide +kernel) (by decide +kernel)
theorem fl_X11_165 : Cond.fieldLink RX11 165 (TX11 49).1 (TX11 49).2.1 (TX11 49).2.2.1 ∈ gtbl := gt_in 1157 (by decide +kernel) (by decide +kernel)
theorem fl_X11_17 : Cond.fieldLink RX11 17 (TX11 11).1 (TX11 11).2.1 (TX11 11).2.2.1 ∈ gtbl := gt_in 1119 (by decide +kernel) (by decide +kernel)
theorem fl_X11_171 : Cond.fieldLink RX11 171 (TX11 10).1 (TX11 10).2.1 (TX11 10).2.2.1 ∈ gtbl := gt_in 1118 (by decide +kernel) (by decide +kernel)
theorem fl_X11_177 : Cond.fieldLink RX11 177 (TX11 8).1 (TX11 8).2.1 (TX11 8).2.2.1 ∈ gtbl := gt_in 1116 (by decide +kernel) (by decide +kernel)
theorem fl_X11_180 : Cond.fieldLink RX11 180 (TX11 9).1 (TX11 9).2.1 (TX11 9).2.2.1 ∈ gtbl := gt_in 1117 (by decide +kernel) (by decide +kernel)
theorem fl_X11_183 : Cond.fieldLink RX11 183 (TX11 6).1 (TX11 6).2.1 (TX11 6).2.2.1 ∈ gtbl := gt_in 1114 (by decide +kernel) (by decide +kernel)
theorem fl_X11_20 : Cond.fieldLink RX11 20 (TX11 12).1 (TX11 12).2.1 (TX11 12).2.2.1 ∈ gtbl := gt_in 1120 (by decide +kernel) (by decide +kernel)
theorem fl_X11_23 : Cond.fieldLink RX11 23 (TX11 13).1 (TX11 13).2.1 (TX11 13).2.2.1 ∈ gtbl := gt_in 1121 (by decide +kernel) (by decide +kernel)
theorem fl_X11_230 : Cond.fieldLink RX11 230 (TX11 7).1 (TX11 7).2.1 (TX11 7).2.2.1 ∈ gtbl := gt_in 1115 (by decide +kernel) (by decide +kernel)
theorem fl_X11_26 : Cond.fieldLink RX11 26 (TX11 14).1 (TX11 14).2.1 (TX11 14).2.2.1 ∈ gtbl := gt_in 1122 (by decide +kernel) (by decide +kernel)
theorem fl_X11_261 : Cond.fieldLink RX11 261 (TX11 25).1 (TX11 25).2.1 (TX11 25).2.2.1 ∈ gtbl := gt_in 1133 (by decide +kernel) (by decide +kernel)
theorem fl_X11_264 : Cond.fieldLink RX11 264 (TX11 31).1 (TX11 31).2.1 (TX11 31).2.2.1 ∈ gtbl := gt_in 1139 (by decide +kernel) (by decide +kernel)
theorem fl_X11_29 : Cond.fieldLink RX11 29 (TX11 15).1 (TX11 15).2.1 (TX11 15).2.2.1 ∈ gtbl := gt_in 1123 (by decide +kernel) (by decide +kernel)
theorem fl_X11_32 : Cond.fieldLink RX11 32 (TX11 17).1 (TX11 17).2.1 (TX11 17).2.2.1 ∈ gtbl := gt_in 1125 (by decide +kernel) (by decide +kernel)
theorem fl_X11_333 : Cond.fieldLink RX11 333 (TX11 47).1 (TX11 47).2.1 (TX11 47).2.2.1 ∈ gtbl := gt_in 1155 (by decide +kernel) (by decide +kernel)
theorem fl_X11_336 : Cond.fieldLink RX11 336 (TX11 48).1 (TX11 48).2.1 (TX11 48).2.2.1 ∈ gtbl := gt_in 1156 (by decide +kernel) (by decide +kernel)
theorem fl_X11_35 : Cond.fieldLink RX11 35 (TX11 18).1 (TX11 18).2.1 (TX11 18).2.2.1 ∈ gtbl := gt_in 1126 (by decide +kernel) (by decide +kernel)
theorem fl_X11_38 : Cond.fieldLink RX11 38 (TX11 19).1 (TX11 19).2.1 (TX11 19).2.2.1 ∈ gtbl := gt_in 1127 (by decide +kernel) (by decide +kernel)
theorem fl_X11_41 : Cond.fieldLink RX11 41 (TX11 20).1 (TX11 20).2.1 (TX11 20).2.2.1 ∈ gtbl := gt_in 1128 (by decide +kernel) (by decide +kernel)
theorem fl_X11_44 : Cond.fieldLink RX11 44 (TX11 21).1 (TX11 21).2.1 (TX11 21).2.2.1 ∈ gtbl := gt_in 1129 (by decide +kernel) (by decide +kernel)
theorem fl_X11_48 : Cond.fieldLink RX11 48 (TX11 23).1 (TX11 23).2.1 (TX11 23).2.2.1 ∈ gtbl := gt_in 1131 (by decide +kernel) (by decide +kernel)
theorem fl_X11_51 : Cond.fieldLink RX11 51 (TX11 26).1 (TX11 26).2.1 (TX11 26).2.2.1 ∈ gtbl := gt_in 1134 (by decide +kernel) (by decide +kernel)
theorem fl_X11_54 : Cond.fieldLink RX11 54 (TX11 27).1 (TX11 27).2.1 (TX11 27).2.2.1 ∈ gtbl := gt_in 1135 (by decide +kernel) (by decide +kernel)
theorem fl_X11_57 : Cond.fieldLink RX11 57 (TX11 28).1 (TX11 28).2.1 (TX11 28).2.2.1 ∈ gtbl := gt_in 1136 (by decide +kernel) (by decide +kernel)
theorem fl_X11_60 : Cond.fieldLink RX11 60 (TX11 29).1 (TX11 29).2.1 (TX11 29).2.2.1 ∈ gtbl := gt_in 1137 (by decide +kernel) (by decide +kernel)
theorem fl_X11_63 : Cond.fieldLink RX11 63 (TX11 30).1 (TX11 30).2.1 (TX11 30).2.2.1 ∈ gtbl := gt_in 1138 (by decide +kernel) (by decide +kernel)
theorem fl_X11_66 : Cond.fieldLink RX11 66 (TX11 32).1 (TX11 32).2.1 (TX11 32).2.2.1 ∈ gtbl := gt_in 1140 (by decide +kernel) (by decide +kernel)
theorem fl_X11_69 : Cond.fieldLink RX11 69 (TX11 33).1 (TX11 33).2.1 (TX11 33).2.2.1 ∈ gtbl := gt_in 1141 (by decide +kernel) (by decide +kernel)
theorem fl_X11_7 : Cond.fieldLink RX11 7 (TX11 1).1 (TX11 1).2.1 (TX11 1).2.2.1 ∈ gtbl := gt_in 1109 (by decide +kernel) (by decide +kernel)
theorem fl_X11_72 : Cond.fieldLink RX11 72 (TX11 34).1 (TX11 34).2.1 (TX11 34).2.2.1 ∈ gtbl := gt_in 1142 (by decide +kernel) (by decide +kernel)
theorem fl_X11_75 : Cond.fieldLink RX11 75 (TX11 35).1 (TX11 35).2.1 (TX11 35).2.2.1 ∈ gtbl := gt_in 1143 (by decide +kernel) (by decide +kernel)
theorem fl_X11_78 : Cond.fieldLink RX11 78 (TX11 36).1 (TX11 36).2.1 (TX11 36).2.2.1 ∈ gtbl := gt_in 1144 (by decide +kernel) (by decide +kernel)
theorem fl_X11_81 : Cond.fieldLink RX11 81 (TX11 37).1 (TX11 37).2.1 (TX11 37).2.2.1 ∈ gtbl := gt_in 1145 (by decide +kernel) (by decide +kernel)
theorem fl_X11_84 : Cond.fieldLink RX11 84 (TX11 38).1 (TX11 38).2.1 (TX11 38).2.2.1 ∈ gtbl := gt_in 1146 (by decide +kernel) (by decide +kernel)
theorem fl_X11_87 : Cond.fieldLink RX11 87 (TX11 39).1 (TX11 39).2.1 (TX11 39).2.2.1 ∈ gtbl := gt_in 1147 (by decide +kernel) (by decide +kernel)
theorem fl_X11_90 : Cond.fieldLink RX11 90 (TX11 40).1 (TX11 40).2.1 (TX11 40).2.2.1 ∈ gtbl := gt_in 1148 (by decide +kernel) (by decide +kernel)
theorem fl_X11_93 : Cond.fieldLink RX11 93 (TX11 41).1 (TX11 41).2.1 (TX11 41).2.2.1 ∈ gtbl := gt_in 1149 (by decide +kernel) (by decide +kernel)
theorem fl_X11_96 : Cond.fieldLink RX11 96 (TX11 42).1 (TX11 42).2.1 (TX11 42).2.2.1 ∈ gtbl := gt_in 1150 (by decide +kernel) (by decide +kernel)
theorem fl_X11_99 : Cond.fieldLink RX11 99 (TX11 43).1 (TX11 43).2.1 (TX11 43).2.2.1 ∈ gtbl := gt_in 1151 (by decide +kernel) (by decide +kernel)
theorem fl_X1_102 : Cond.fieldLink RX1 102 (TX0 6).1 (TX0 6).2.1 (TX0 6).2.2.1 ∈ gtbl := gt_in 375 (by decide +kernel) (by decide +kernel)
theorem fl_X1_105 : Cond.fieldLink RX1 105 (TX1 5).1 (TX1 5).2.1 (TX1 5).2.2.1 ∈ gtbl := gt_in 218 (by decide +kernel) (by decide +kernel)
theorem fl_X1_127 : Cond.fieldLink RX1 127 (TX4 10).1 (TX4 10).2.1 (TX4 10).2.2.1 ∈ gtbl := gt_in 302 (by decide +kernel) (by decide +kernel)
theorem fl_X1_130 : Cond.fieldLink RX1 130 (TX4 0).1 (TX4 0).2.1 (TX4 0).2.2.1 ∈ gtbl := gt_in 275 (by decide +kernel) (by decide +kernel)
theorem fl_X1_133 : Cond.fieldLink RX1 133 (TX4 3).1 (TX4 3).2.1 (TX4 3).2.2.1 ∈ gtbl := gt_in 285 (by decide +kernel) (by decide +kernel)
theorem fl_X1_140 : Cond.fieldLink RX1 140 (TX4 4).1 (TX4 4).2.1 (TX4 4).2.2.1 ∈ gtbl := gt_in 288 (by decide +kernel) (by decide +kernel)
theorem fl_X1_143 : Cond.fieldLink RX1 143 (TX0 2).1 (TX0 2).2.1 (TX0 2).2.2.1 ∈ gtbl := gt_in 360 (by decide +kernel) (by decide +kernel)
theorem fl_X1_147 : Cond.fieldLink RX1 147 (TX0 3).1 (TX0 3).2.1 (TX0 3).2.2.1 ∈ gtbl := gt_in 364 (by decide +kernel) (by decide +kernel)
theorem fl_X1_15 : Cond.fieldLink RX1 15 (TX1 1).1 (TX1 1).2.1 (TX1 1).2.2.1 ∈ gtbl := gt_in 214 (by decide +kernel) (by decide +kernel)
theorem fl_X1_18 : Cond.fieldLink RX1 18 (TX1 2).1 (TX1 2).2.1 (TX1 2).2.2.1 ∈ gtbl := gt_in 215 (by decide +kernel) (by decide +kernel)
theorem fl_X1_21 : Cond.fieldLink RX1 21 (TX1 3).1 (TX1 3).2.1 (TX1 3).2.2.1 ∈ gtbl := gt_in 216 (by decide +kernel) (by decide +kernel)
theorem fl_X1_26 : Cond.fieldLink RX1 26 (TX1 4).1 (TX1 4).2.1 (TX1 4).2.2.1 ∈ gtbl := gt_in 217 (by decide +kernel) (by decide +kernel)
theorem fl_X1_30 : Cond.fieldLink RX1 30 (TX5 3).1 (TX5 3).2.1 (TX5 3).2.2.1 ∈ gtbl := gt_in 406 (by decide +kernel) (by decide +kernel)
theorem fl_X1_36 : Cond.fieldLink RX1 36 (TX5 1).1 (TX5 1).2.1 (TX5 1).2.2.1 ∈ gtbl := gt_in 399 (by decide +kernel) (by decide +kernel)
theorem fl_X1_59 : Cond.fieldLink RX1 59 (TX0 0).1 (TX0 0).2.1 (TX0 0).2.2.1 ∈ gtbl := gt_in 350 (by decide +kernel) (by decide +kernel)
theorem fl_X1_64 : Cond.fieldLink RX1 64 (TX0 1).1 (TX0 1).2.1 (TX0 1).2.2.1 ∈ gtbl := gt_in 354 (by decide +kernel) (by decide +kernel)
theorem fl_X1_66 : Cond.fieldLink RX1 66 (TX5 0).1 (TX5 0).2.1 (TX5 0).2.2.1 ∈ gtbl := gt_in 394 (by decide +kernel) (by decide +kernel)
theorem fl_X1_69 : Cond.fieldLink RX1 69 (TX4 2).1 (TX4 2).2.1 (TX4 2).2.2.1 ∈ gtbl := gt_in 280 (by decide +kernel) (by decide +kernel)
theorem fl_X1_72 : Cond.fieldLink RX1 72 (TX4 7).1 (TX4 7).2.1 (TX4 7).2.2.1 ∈ gtbl := gt_in 295 (by decide +kernel) (by decide +kernel)
theorem fl_X1_74 : Cond.fieldLink RX1 74 (TX4 9).1 (TX4 9).2.1 (TX4 9).2.2.1 ∈ gtbl := gt_in 299 (by decide +kernel) (by decide +kernel)
theorem fl_X1_77 : Cond.fieldLink RX1 77 (TX4 11).1 (TX4 11).2.1 (TX4 11).2.2.1 ∈ gtbl := gt_in 304 (by decide +kernel) (by decide +kernel)
theorem fl_X1_80 : Cond.fieldLink RX1 80 (TX4 12).1 (TX4 12).2.1 (TX4 12).2.2.1 ∈ gtbl := gt_in 307 (by decide +kernel) (by decide +kernel)
theorem fl_X1_83 : Cond.fieldLink RX1 83 (TX4 13).1 (TX4 13).2.1 (TX4 13).2.2.1 ∈ gtbl := gt_in 308 (by decide +kernel) (by decide +kernel)
theorem fl_X1_86 : Cond.fieldLink RX1 86 (TX4 14).1 (TX4 14).2.1 (TX4 14).2.2.1 ∈ gtbl := gt_in 309 (by decide +kernel) (by decide +kernel)
theorem fl_X1_9 : Cond.fieldLink RX1 9 (TX1 0).1 (TX1 0).2.1 (TX1 0).2.2.1 ∈ gtbl := gt_in 213 (by decide +kernel) (by decide +kernel)
theorem fl_X1_93 : Cond.fieldLink RX1 93 (TX4 8).1 (TX4 8).2.1 (TX4 8).2.2.1 ∈ gtbl := gt_in 296 (by decide +kernel) (by decide +kernel)
theorem fl_X2_15 : Cond.fieldLink RX2 15 (TX2 1).1 (TX2 1).2.1 (TX2 1).2.2.1 ∈ gtbl := gt_in 240 (by decide +kernel) (by decide +kernel)
theorem fl_X2_18 : Cond.fieldLink RX2 18 (TX2 2).1 (TX2 2).2.1 (TX2 2).2.2.1 ∈ gtbl := gt_in 242 (by decide +kernel) (by decide +kernel)
theorem fl_X2_21 : Cond.fieldLink RX2 21 (TX2 3).1 (TX2 3).2.1 (TX2 3).2.2.1 ∈ gtbl := gt_in 243 (by decide +kernel) (by decide +kernel)
theorem fl_X2_25 : Cond.fieldLink RX2 25 (TX5 3).1 (TX5 3).2.1 (TX5 3).2.2.1 ∈ gtbl := gt_in 404 (by decide +kernel) (by decide +kernel)
theorem fl_X2_31 : Cond.fieldLink RX2 31 (TX2 4).1 (TX2 4).2.1 (TX2 4).2.2.1 ∈ gtbl := gt_in 244 (by decide +kernel) (by decide +kernel)
theorem fl_X2_34 : Cond.fieldLink RX2 34 (TX2 5).1 (TX2 5).2.1 (TX2 5).2.2.1 ∈ gtbl := gt_in 246 (by decide +kernel) (by decide +kernel)
theorem fl_X2_38 : Cond.fieldLink RX2 38 (TX5 1).1 (TX5 1).2.1 (TX5 1).2.2.1 ∈ gtbl := gt_in 398 (by decide +kernel) (by decide +kernel)
theorem fl_X2_46 : Cond.fieldLink RX2 46 (TX0 6).1 (TX0 6).2.1 (TX0 6).2.2.1 ∈ gtbl := gt_in 373 (by decide +kernel) (by decide +kernel)
theorem fl_X2_51 : Cond.fieldLink RX2 51 (TX0 0).1 (TX0 0).2.1 (TX0 0).2.2.1 ∈ gtbl := gt_in 349 (by decide +kernel) (by decide +kernel)
theorem fl_X2_54 : Cond.fieldLink RX2 54 (TX0 1).1 (TX0 1).2.1 (TX0 1).2.2.1 ∈ gtbl := gt_in 353 (by decide +kernel) (by decide +kernel)
theorem fl_X2_57 : Cond.fieldLink RX2 57 (TX5 0).1 (TX5 0).2.1 (TX5 0).2.2.1 ∈ gtbl := gt_in 393 (by decide +kernel) (by decide +kernel)
theorem fl_X2_65 : Cond.fieldLink RX2 65 (TX4 5).1 (TX4 5).2.1 (TX4 5).2.2.1 ∈ gtbl := gt_in 290 (by decide +kernel) (by decide +kernel)
theorem fl_X2_70 : Cond.fieldLink RX2 70 (TX0 2).1 (TX0 2).2.1 (TX0 2).2.2.1 ∈ gtbl := gt_in 358 (by decide +kernel) (by decide +kernel)
theorem fl_X2_74 : Cond.fieldLink RX2 74 (TX0 3).1 (TX0 3).2.1 (TX0 3).2.2.1 ∈ gtbl := gt_in 362 (by decide +kernel) (by decide +kernel)
theorem fl_X2_81 : Cond.fieldLink RX2 81 (TX0 4).1 (TX0 4).2.1 (TX0 4).2.2.1 ∈ gtbl := gt_in 366 (by decide +kernel) (by decide +kernel)
theorem fl_X2_84 : Cond.fieldLink RX2 84 (TX0 5).1 (TX0 5).2.1 (TX0 5).2.2.1 ∈ gtbl := gt_in 370 (by decide +kernel) (by decide +kernel)
theorem fl_X2_87 : Cond.fieldLink RX2 87 (TX4 3).1 (TX4 3).2.1 (TX4 3).2.2.1 ∈ gtbl := gt_in 284 (by decide +kernel) (by decide +kernel)
theorem fl_X2_9 : Cond.fieldLink RX2 9 (TX2 0).1 (TX2 0).2.1 (TX2 0).2.2.1 ∈ gtbl := gt_in 238 (by decide +kernel) (by decide +kernel)
theorem fl_X2_90 : Cond.fieldLink RX2 90 (TX4 4).1 (TX4 4).2.1 (TX4 4).2.2.1 ∈ gtbl := gt_in 287 (by decide +kernel) (by decide +kernel)
theorem fl_X2_93 : Cond.fieldLink RX2 93 (TX4 1).1 (TX4 1).2.1 (TX4 1).2.2.1 ∈ gtbl := gt_in 278 (by decide +kernel) (by decide +kernel)
theorem fl_X4_15 : Cond.fieldLink RX4 15 (TX4 3).1 (TX4 3).2.1 (TX4 3).2.2.1 ∈ gtbl := gt_in 283 (by decide +kernel) (by decide +kernel)
theorem fl_X4_18 : Cond.fieldLink RX4 18 (TX4 4).1 (TX4 4).2.1 (TX4 4).2.2.1 ∈ gtbl := gt_in 286 (by decide +kernel) (by decide +kernel)
theorem fl_X4_25 : Cond.fieldLink RX4 25 (TX4 2).1 (TX4 2).2.1 (TX4 2).2.2.1 ∈ gtbl := gt_in 279 (by decide +kernel) (by decide +kernel)
theorem fl_X4_28 : Cond.fieldLink RX4 28 (TX4 5).1 (TX4 5).2.1 (TX4 5).2.2.1 ∈ gtbl := gt_in 289 (by decide +kernel) (by decide +kernel)
theorem fl_X4_31 : Cond.fieldLink RX4 31 (TX4 9).1 (TX4 9).2.1 (TX4 9).2.2.1 ∈ gtbl := gt_in 298 (by decide +kernel) (by decide +kernel)
theorem fl_X4_34 : Cond.fieldLink RX4 34 (TX4 7).1 (TX4 7).2.1 (TX4 7).2.2.1 ∈ gtbl := gt_in 294 (by decide +kernel) (by decide +kernel)
theorem fl_X4_37 : Cond.fieldLink RX4 37 (TX4 0).1 (TX4 0).2.1 (TX4 0).2.2.1 ∈ gtbl := gt_in 274 (by decide +kernel) (by decide +kernel)
theorem fl_X4_9 : Cond.fieldLink RX4 9 (TX4 1).1 (TX4 1).2.1 (TX4 1).2.2.1 ∈ gtbl := gt_in 277 (by decide +kernel) (by decide +kernel)
theorem fl_X5_11 : Cond.fieldLink RX5 11 (TX5 0).1 (TX5 0).2.1 (TX5 0).2.2.1 ∈ gtbl := gt_in 392 (by decide +kernel) (by decide +kernel)
theorem fl_X5_24 : Cond.fieldLink RX5 24 (TX5 1).1 (TX5 1).2.1 (TX5 1).2.2.1 ∈ gtbl := gt_in 397 (by decide +kernel) (by decide +kernel)
theorem fl_X5_29 : Cond.fieldLink RX5 29 (TX5 2).1 (TX5 2).2.1 (TX5 2).2.2.1 ∈ gtbl := gt_in 402 (by decide +kernel) (by decide +kernel)
theorem fl_X5_32 : Cond.fieldLink RX5 32 (TX5 3).1 (TX5 3).2.1 (TX5 3).2.2.1 ∈ gtbl := gt_in 405 (by decide +kernel) (by decide +kernel)
theorem fl_X5_42 : Cond.fieldLink RX5 42 (TX4 6).1 (TX4 6).2.1 (TX4 6).2.2.1 ∈ gtbl := gt_in 292 (by decide +kernel) (by decide +kernel)
theorem fl_X5_44 : Cond.fieldLink RX5 44 (TX0 1).1 (TX0 1).2.1 (TX0 1).2.2.1 ∈ gtbl := gt_in 355 (by decide +kernel) (by decide +kernel)
theorem fl_X5_47 : Cond.fieldLink RX5 47 (TX0 6).1 (TX0 6).2.1 (TX0 6).2.2.1 ∈ gtbl := gt_in 374 (by decide +kernel) (by decide +kernel)
theorem fl_X5_50 : Cond.fieldLink RX5 50 (TX4 11).1 (TX4 11).2.1 (TX4 11).2.2.1 ∈ gtbl := gt_in 305 (by decide +kernel) (by decide +kernel)
theorem fl_X5_59 : Cond.fieldLink RX5 59 (TX4 2).1 (TX4 2).2.1 (TX4 2).2.2.1 ∈ gtbl := gt_in 281 (by decide +kernel) (by decide +kernel)
theorem fl_X5_62 : Cond.fieldLink RX5 62 (TX4 10).1 (TX4 10).2.1 (TX4 10).2.2.1 ∈ gtbl := gt_in 301 (by decide +kernel) (by decide +kernel)
theorem fl_X6_15 : Cond.fieldLink RX6 15 (TX6 1).1 (TX6 1).2.1 (TX6 1).2.2.1 ∈ gtbl := gt_in 149 (by decide +kernel) (by decide +kernel)
theorem fl_X6_19 : Cond.fieldLink RX6 19 (TX7 1).1 (TX7 1).2.1 (TX7 1).2.2.1 ∈ gtbl := gt_in 129 (by decide +kernel) (by decide +kernel)
theorem fl_X6_24 : Cond.fieldLink RX6 24 (TX7 0).1 (TX7 0).2.1 (TX7 0).2.2.1 ∈ gtbl := gt_in 126 (by decide +kernel) (by decide +kernel)
theorem fl_X6_9 : Cond.fieldLink RX6 9 (TX6 0).1 (TX6 0).2.1 (TX6 0).2.2.1 ∈ gtbl := gt_in 148 (by decide +kernel) (by decide +kernel)
theorem fl_X7_15 : Cond.fieldLink RX7 15 (TX7 1).1 (TX7 1).2.1 (TX7 1).2.2.1 ∈ gtbl := gt_in 127 (by decide +kernel) (by decide +kernel)
theorem fl_X7_9 : Cond.fieldLink RX7 9 (TX7 0).1 (TX7 0).2.1 (TX7 0).2.2.1 ∈ gtbl := gt_in 125 (by decide +kernel) (by decide +kernel)
theorem fl_X8_102 : Cond.fieldLink RX8 102 (TX6 1).1 (TX6 1).2.1 (TX6 1).2.2.1 ∈ gtbl := gt_in 150 (by decide +kernel) (by decide +kernel)
theorem fl_X8_125 : Cond.fieldLink RX8 125 (TX5 0).1 (TX5 0).2.1 (TX5 0).2.2.1 ∈ gtbl := gt_in 395 (by decide +kernel) (by decide +kernel)
theorem fl_X8_133 : Cond.fieldLink RX8 133 (TX4 5).1 (TX4 5).2.1 (TX4 5).2.2.1 ∈ gtbl := gt_in 291 (by decide +kernel) (by decide +kernel)
theorem fl_X8_14 : Cond.fieldLink RX8 14 (TX8 0).1 (TX8 0).2.1 (TX8 0).2.2.1 ∈ gtbl := gt_in 181 (by decide +kernel) (by decide +kernel)
theorem fl_X8_204 : Cond.fieldLink RX8 204 (TX4 0).1 (TX4 0).2.1 (TX4 0).2.2.1 ∈ gtbl := gt_in 276 (by decide +kernel) (by decide +kernel)
theorem fl_X8_23 : Cond.fieldLink RX8 23 (TX8 1).1 (TX8 1).2.1 (TX8 1).2.2.1 ∈ gtbl := gt_in 182 (by decide +kernel) (by decide +kernel)
theorem fl_X8_27 : Cond.fieldLink RX8 27 (TX8 6).1 (TX8 6).2.1 (TX8 6).2.2.1 ∈ gtbl := gt_in 188 (by decide +kernel) (by decide +kernel)
theorem fl_X8_31 : Cond.fieldLink RX8 31 (TX8 2).1 (TX8 2).2.1 (TX8 2).2.2.1 ∈ gtbl := gt_in 183 (by decide +kernel) (by decide +kernel)
theorem fl_X8_47 : Cond.fieldLink RX8 47 (TX8 3).1 (TX8 3).2.1 (TX8 3).2.2.1 ∈ gtbl := gt_in 184 (by decide +kernel) (by decide +kernel)
theorem fl_X8_50 : Cond.fieldLink RX8 50 (TX8 4).1 (TX8 4).2.1 (TX8 4).2.2.1 ∈ gtbl := gt_in 185 (by decide +kernel) (by decide +kernel)
theorem fl_X8_53 : Cond.fieldLink RX8 53 (TX8 5).1 (TX8 5).2.1 (TX8 5).2.2.1 ∈ gtbl := gt_in 186 (by decide +kernel) (by decide +kernel)
theorem fl_X9_15 : Cond.fieldLink RX9 15 (TX9 1).1 (TX9 1).2.1 (TX9 1).2.2.1 ∈ gtbl := gt_in 163 (by decide +kernel) (by decide +kernel)
theorem fl_X9_18 : Cond.fieldLink RX9 18 (TX9 3).1 (TX9 3).2.1 (TX9 3).2.2.1 ∈ gtbl := gt_in 165 (by decide +kernel) (by decide +kernel)
theorem fl_X9_22 : Cond.fieldLink RX9 22 (TX9 2).1 (TX9 2).2.1 (TX9 2).2.2.1 ∈ gtbl := gt_in 164 (by decide +kernel) (by decide +kernel)
theorem fl_X9_34 : Cond.fieldLink RX9 34 (TX9 5).1 (TX9 5).2.1 (TX9 5).2.2.1 ∈ gtbl := gt_in 167 (by decide +kernel) (by decide +kernel)
theorem fl_X9_37 : Cond.fieldLink RX9 37 (TX9 4).1 (TX9 4).2.1 (TX9 4).2.2.1 ∈ gtbl := gt_in 166 (by decide +kernel) (by decide +kernel)
theorem fl_X9_41 : Cond.fieldLink RX9 41 (TX5 3).1 (TX5 3).2.1 (TX5 3).2.2.1 ∈ gtbl := gt_in 407 (by decide +kernel) (by decide +kernel)
theorem fl_X9_50 : Cond.fieldLink RX9 50 (TX0 2).1 (TX0 2).2.1 (TX0 2).2.2.1 ∈ gtbl := gt_in 359 (by decide +kernel) (by decide +kernel)
theorem fl_X9_56 : Cond.fieldLink RX9 56 (TX0 3).1 (TX0 3).2.1 (TX0 3).2.2.1 ∈ gtbl := gt_in 363 (by decide +kernel) (by decide +kernel)
theorem fl_X9_59 : Cond.fieldLink RX9 59 (TX0 4).1 (TX0 4).2.1 (TX0 4).2.2.1 ∈ gtbl := gt_in 367 (by decide +kernel) (by decide +kernel)
theorem fl_X9_62 : Cond.fieldLink RX9 62 (TX0 5).1 (TX0 5).2.1 (TX0 5).2.2.1 ∈ gtbl := gt_in 371 (by decide +kernel) (by decide +kernel)
theorem fl_X9_65 : Cond.fieldLink RX9 65 (TX5 1).1 (TX5 1).2.1 (TX5 1).2.2.1 ∈ gtbl := gt_in 400 (by decide +kernel) (by decide +kernel)
theorem fl_X9_9 : Cond.fieldLink RX9 9 (TX9 0).1 (TX9 0).2.1 (TX9 0).2.2.1 ∈ gtbl := gt_in 162 (by decide +kernel) (by decide +kernel)
theorem ml_X6_56 : gMn RX6 56 := ⟨gt_in 633 (by decide +kernel) (by decide +kernel), gt_in 634 (by decide +kernel) (by decide +kernel), gt_in 105 (by decide +kernel) (by decide +kernel), gt_in 635 (by decide +kernel) (by decide +kernel)⟩
theorem mm_X1_96 : gMx RX1 96 := ⟨gt_in 742 (by decide +kernel) (by decide +kernel), gt_in 743 (by decide +kernel) (by decide +kernel), gt_in 105 (by decide +kernel) (by decide +kernel), gt_in 744 (by decide +kernel) (by decide +kernel)⟩
theorem mm_X5_53 : gMx RX5 53 := ⟨gt_in 919 (by decide +kernel) (by decide +kernel), gt_in 743 (by decide +kernel) (by decide +kernel), gt_in 105 (by decide +kernel) (by decide +kernel), gt_in 744 (by decide +kernel) (by decide +kernel)⟩
theorem ms_X11_143 : gS RX11 143 yX11_isLetter cX11_isLetter 1 (some .boolean) 1 := ⟨gt_in 1292 (by decide +kernel) (by decide +kernel), gt_in 1293 (by decide +kernel) (by decide +kernel), gt_in 99 (by decide +kernel) (by decide +kernel), gt_in 1294 (by decide +kernel) (by decide +kernel), by decide +kernel, by decide +kernel, by decide +kernel⟩
theorem ms_X11_186 : gS RX11 186 yX11_isFigure cX11_isFigure 1 (some .boolean) 1 := ⟨gt_in 1334 (by decide +kernel) (by decide +kernel), gt_in 1335 (by decide +kernel) (by decide +kernel), gt_in 99 (by decide +kernel) (by decide +kernel), gt_in 1336 (by decide +kernel) (by decide +kernel), by decide +kernel, by decide +kernel, by decide +kernel⟩
theorem ms_X11_277 : gS RX11 277 yX11_kindOf cX11_kindOf 1 (some .int) 1 := ⟨gt_in 1053 (by decide +kernel) (by decide +kernel), gt_in 1054 (by decide +kernel) (by decide +kernel), gt_in 99 (by decide +kernel) (by decide +kernel), gt_in 1055 (by decide +kernel) (by decide +kernel), by decide +kernel, by decide +kernel, by decide +kernel⟩
theorem ms_X1_150 : gS RX1 150 yX3_isValue cX3_isValue 1 (some .boolean) 1 := ⟨gt_in 781 (by decide +kernel) (by decide +kernel), gt_in 699 (by decide +kernel) (by decide +kernel), gt_in 104 (by decide +kernel) (by decide +kernel), gt_in 700 (by decide +kernel) (by decide +kernel), by decide +kernel, by decide +kernel, by decide +kernel⟩
theorem ms_X1_156 : gS RX1 156 yX3_operationOf cX3_operationOf 1 (some .int) 1 := ⟨gt_in 782 (by decide +kernel) (by decide +kernel), gt_in 702 (by decide +kernel) (by decide +kernel), gt_in 104 (by decide +kernel) (by decide +kernel), gt_in 703 (by decide +kernel) (by decide +kernel), by decide +kernel, by decide +kernel, by decide +kernel⟩
theorem ms_X2_102 : gS RX2 102 yX3_isValue cX3_isValue 1 (some .boolean) 1 := ⟨gt_in 1010 (by decide +kernel) (by decide +kernel), gt_in 699 (by decide +kernel) (by decide +kernel), gt_in 104 (by decide +kernel) (by decide +kernel), gt_in 700 (by decide +kernel) (by decide +kernel), by decide +kernel, by decide +kernel, by decide +kernel⟩
theorem ms_X2_105 : gS RX2 105 yX3_operationOf cX3_operationOf 1 (some .int) 1 := ⟨gt_in 1011 (by decide +kernel) (by decide +kernel), gt_in 702 (by decide +kernel) (by decide +kernel), gt_in 104 (by decide +kernel) (by decide +kernel), gt_in 703 (by decide +kernel) (by decide +kernel), by decide +kernel, by decide +kernel, by decide +kernel⟩
theorem ms_X2_108 : gS RX2 108 yX3_variableOf cX3_variableOf 1 (some .int) 1 := ⟨gt_in 1012 (by decide +kernel) (by decide +kernel), gt_in 1013 (by decide +kernel) (by decide +kernel), gt_in 104 (by decide +kernel) (by decide +kernel), gt_in 1014 (by decide +kernel) (by decide +kernel), by decide +kernel, by decide +kernel, by decide +kernel⟩
theorem ms_X2_96 : gS RX2 96 yX3_isNumber cX3_isNumber 1 (some .boolean) 1 := ⟨gt_in 1007 (by decide +kernel) (by decide +kernel), gt_in 1008 (by decide +kernel) (by decide +kernel), gt_in 104 (by decide +kernel) (by decide +kernel), gt_in 1009 (by decide +kernel) (by decide +kernel), by decide +kernel, by decide +kernel, by decide +kernel⟩
theorem ms_X4_21 : gS RX4 21 yX4_kindOf cX4_kindOf 1 (some .int) 1 := ⟨gt_in 658 (by decide +kernel) (by decide +kernel), gt_in 659 (by decide +kernel) (by decide +kernel), gt_in 97 (by decide +kernel) (by decide +kernel), gt_in 660 (by decide +kernel) (by decide +kernel), by decide +kernel, by decide +kernel, by decide +kernel⟩
theorem ms_X4_40 : gS RX4 40 yX3_ofValue cX3_ofValue 1 (some .int) 1 := ⟨gt_in 728 (by decide +kernel) (by decide +kernel), gt_in 662 (by decide +kernel) (by decide +kernel), gt_in 104 (by decide +kernel) (by decide +kernel), gt_in 663 (by decide +kernel) (by decide +kernel), by decide +kernel, by decide +kernel, by decide +kernel⟩
theorem ms_X4_56 : gS RX4 56 yX3_ofVariable cX3_ofVariable 1 (some .int) 1 := ⟨gt_in 741 (by decide +kernel) (by decide +kernel), gt_in 669 (by decide +kernel) (by decide +kernel), gt_in 104 (by decide +kernel) (by decide +kernel), gt_in 670 (by decide +kernel) (by decide +kernel), by decide +kernel, by decide +kernel, by decide +kernel⟩
theorem ms_X6_43 : gS RX6 43 yX6_isFigure cX6_isFigure 1 (some .boolean) 1 := ⟨gt_in 619 (by decide +kernel) (by decide +kernel), gt_in 620 (by decide +kernel) (by decide +kernel), gt_in 92 (by decide +kernel) (by decide +kernel), gt_in 621 (by decide +kernel) (by decide +kernel), by decide +kernel, by decide +kernel, by decide +kernel⟩
theorem ms_X6_47 : gS RX6 47 yX6_isLetter cX6_isLetter 1 (some .boolean) 1 := ⟨gt_in 489 (by decide +kernel) (by decide +kernel), gt_in 490 (by decide +kernel) (by decide +kernel), gt_in 92 (by decide +kernel) (by decide +kernel), gt_in 491 (by decide +kernel) (by decide +kernel), by decide +kernel, by decide +kernel, by decide +kernel⟩
theorem ms_X8_118 : gS RX8 118 yX3_isValue cX3_isValue 1 (some .boolean) 1 := ⟨gt_in 698 (by decide +kernel) (by decide +kernel), gt_in 699 (by decide +kernel) (by decide +kernel), gt_in 104 (by decide +kernel) (by decide +kernel), gt_in 700 (by decide +kernel) (by decide +kernel), by decide +kernel, by decide +kernel, by decide +kernel⟩
theorem ms_X8_129 : gS RX8 129 yX3_operationOf cX3_operationOf 1 (some .int) 1 := ⟨gt_in 701 (by decide +kernel) (by decide +kernel), gt_in 702 (by decide +kernel) (by decide +kernel), gt_in 104 (by decide +kernel) (by decide +kernel), gt_in 703 (by decide +kernel) (by decide +kernel), by decide +kernel, by decide +kernel, by decide +kernel⟩
theorem ms_X8_185 : gS RX8 185 yX3_ofVariable cX3_ofVariable 1 (some .int) 1 := ⟨gt_in 668 (by decide +kernel) (by decide +kernel), gt_in 669 (by decide +kernel) (by decide +kernel), gt_in 104 (by decide +kernel) (by decide +kernel), gt_in 670 (by decide +kernel) (by decide +kernel), by decide +kernel, by decide +kernel, by decide +kernel⟩
theorem ms_X8_206 : gS RX8 206 yX3_ofValue cX3_ofValue 1 (some .int) 1 := ⟨gt_in 661 (by decide +kernel) (by decide +kernel), gt_in 662 (by decide +kernel) (by decide +kernel), gt_in 104 (by decide +kernel) (by decide +kernel), gt_in 663 (by decide +kernel) (by decide +kernel), by decide +kernel, by decide +kernel, by decide +kernel⟩
theorem mv_X10_49 : gV RX10 49 RX2 yX2_begin cX2_begin 2 none 1 := ⟨gt_in 418 (by decide +kernel) (by decide +kernel), gt_in 419 (by decide +kernel) (by decide +kernel), gt_in 420 (by decide +kernel) (by decide +kernel), gt_in 95 (by decide +kernel) (by decide +kernel), gt_in 421 (by decide +kernel) (by decide +kernel), rfl, by decide +kernel, by decide +kernel, by decide +kernel⟩
theorem mv_X10_64 : gV RX10 64 RX7 yX7_clear cX7_clear 2 (some .int) 0 := ⟨gt_in 445 (by decide +kernel) (by decide +kernel), gt_in 446 (by decide +kernel) (by decide +kernel), gt_in 447 (by decide +kernel) (by decide +kernel), gt_in 90 (by decide +kernel) (by decide +kernel), gt_in 448 (by decide +kernel) (by decide +kernel), rfl, by decide +kernel, by decide +kernel, by decide +kernel⟩
theorem mv_X10_76 : gV RX10 76 RX1 yX1_lay cX1_lay 4 none 1 := ⟨gt_in 712 (by decide +kernel) (by decide +kernel), gt_in 713 (by decide +kernel) (by decide +kernel), gt_in 714 (by decide +kernel) (by decide +kernel), gt_in 94 (by decide +kernel) (by decide +kernel), gt_in 715 (by decide +kernel) (by decide +kernel), rfl, by decide +kernel, by decide +kernel, by decide +kernel⟩
theorem mv_X10_79 : gV RX10 79 RX8 yX8_translate cX8_translate 2 (some .boolean) 1 := ⟨gt_in 453 (by decide +kernel) (by decide +kernel), gt_in 454 (by decide +kernel) (by decide +kernel), gt_in 455 (by decide +kernel) (by decide +kernel), gt_in 91 (by decide +kernel) (by decide +kernel), gt_in 456 (by decide +kernel) (by decide +kernel), rfl, by decide +kernel, by decide +kernel, by decide +kernel⟩
theorem mv_X11_114 : gV RX11 114 RX11 yX11_keepProgram cX11_keepProgram 2 none 0 := ⟨gt_in 1021 (by decide +kernel) (by decide +kernel), gt_in 1023 (by decide +kernel) (by decide +kernel), gt_in 40 (by decide +kernel) (by decide +kernel), gt_in 99 (by decide +kernel) (by decide +kernel), gt_in 1024 (by decide +kernel) (by decide +kernel), rfl, by decide +kernel, by decide +kernel, by decide +kernel⟩
theorem mv_X11_131 : gV RX11 131 RX11 yX11_byteAt cX11_byteAt 2 (some .int) 1 := ⟨gt_in 1288 (by decide +kernel) (by decide +kernel), gt_in 1290 (by decide +kernel) (by decide +kernel), gt_in 63 (by decide +kernel) (by decide +kernel), gt_in 99 (by decide +kernel) (by decide +kernel), gt_in 1291 (by decide +kernel) (by decide +kernel), rfl, by decide +kernel, by decide +kernel, by decide +kernel⟩
theorem mv_X11_135 : gV RX11 135 RX11 yX11_next cX11_next 1 (some .int) 0 := ⟨gt_in 1284 (by decide +kernel) (by decide +kernel), gt_in 1286 (by decide +kernel) (by decide +kernel), gt_in 62 (by decide +kernel) (by decide +kernel), gt_in 99 (by decide +kernel) (by decide +kernel), gt_in 1287 (by decide +kernel) (by decide +kernel), rfl, by decide +kernel, by decide +kernel, by decide +kernel⟩
theorem mv_X11_139 : gV RX11 139 RX11 yX11_fail cX11_fail 3 none 2 := ⟨gt_in 1314 (by decide +kernel) (by decide +kernel), gt_in 1316 (by decide +kernel) (by decide +kernel), gt_in 68 (by decide +kernel) (by decide +kernel), gt_in 99 (by decide +kernel) (by decide +kernel), gt_in 1317 (by decide +kernel) (by decide +kernel), rfl, by decide +kernel, by decide +kernel, by decide +kernel⟩
theorem mv_X11_147 : gV RX11 147 RX11 yX11_wordSize cX11_wordSize 3 (some .int) 1 := ⟨gt_in 1299 (by decide +kernel) (by decide +kernel), gt_in 1301 (by decide +kernel) (by decide +kernel), gt_in 65 (by decide +kernel) (by decide +kernel), gt_in 99 (by decide +kernel) (by decide +kernel), gt_in 1302 (by decide +kernel) (by decide +kernel), rfl, by decide +kernel, by decide +kernel, by decide +kernel⟩
theorem mv_X11_168 : gV RX11 168 RX11 yX11_lead cX11_lead 5 none 2 := ⟨gt_in 1357 (by decide +kernel) (by decide +kernel), gt_in 1359 (by decide +kernel) (by decide +kernel), gt_in 77 (by decide +kernel) (by decide +kernel), gt_in 99 (by decide +kernel) (by decide +kernel), gt_in 1360 (by decide +kernel) (by decide +kernel), rfl, by decide +kernel, by decide +kernel, by decide +kernel⟩
theorem mv_X11_174 : gV RX11 174 RX11 yX11_needBlock cX11_needBlock 1 none 0 := ⟨gt_in 1353 (by decide +kernel) (by decide +kernel), gt_in 1355 (by decide +kernel) (by decide +kernel), gt_in 76 (by decide +kernel) (by decide +kernel), gt_in 99 (by decide +kernel) (by decide +kernel), gt_in 1356 (by decide +kernel) (by decide +kernel), rfl, by decide +kernel, by decide +kernel, by decide +kernel⟩
theorem mv_X11_197 : gV RX11 197 RX11 yX11_number cX11_number 4 none 0 := ⟨gt_in 1337 (by decide +kernel) (by decide +kernel), gt_in 1339 (by decide +kernel) (by decide +kernel), gt_in 73 (by decide +kernel) (by decide +kernel), gt_in 99 (by decide +kernel) (by decide +kernel), gt_in 1340 (by decide +kernel) (by decide +kernel), rfl, by decide +kernel, by decide +kernel, by decide +kernel⟩
theorem mv_X11_200 : gV RX11 200 RX11 yX11_open cX11_open 1 none 0 := ⟨gt_in 1345 (by decide +kernel) (by decide +kernel), gt_in 1347 (by decide +kernel) (by decide +kernel), gt_in 74 (by decide +kernel) (by decide +kernel), gt_in 99 (by decide +kernel) (by decide +kernel), gt_in 1348 (by decide +kernel) (by decide +kernel), rfl, by decide +kernel, by decide +kernel, by decide +kernel⟩
theorem mv_X11_203 : gV RX11 203 RX11 yX11_expression cX11_expression 5 none 0 := ⟨gt_in 1318 (by decide +kernel) (by decide +kernel), gt_in 1320 (by decide +kernel) (by decide +kernel), gt_in 69 (by decide +kernel) (by decide +kernel), gt_in 99 (by decide +kernel) (by decide +kernel), gt_in 1321 (by decide +kernel) (by decide +kernel), rfl, by decide +kernel, by decide +kernel, by decide +kernel⟩
theorem mv_X11_206 : gV RX11 206 RX11 yX11_want cX11_want 2 none 1 := ⟨gt_in 1310 (by decide +kernel) (by decide +kernel), gt_in 1312 (by decide +kernel) (by decide +kernel), gt_in 67 (by decide +kernel) (by decide +kernel), gt_in 99 (by decide +kernel) (by decide +kernel), gt_in 1313 (by decide +kernel) (by decide +kernel), rfl, by decide +kernel, by decide +kernel, by decide +kernel⟩
theorem mv_X11_210 : gV RX11 210 RX11 yX11_word cX11_word 8 (some .int) 0 := ⟨gt_in 1295 (by decide +kernel) (by decide +kernel), gt_in 1297 (by decide +kernel) (by decide +kernel), gt_in 64 (by decide +kernel) (by decide +kernel), gt_in 99 (by decide +kernel) (by decide +kernel), gt_in 1298 (by decide +kernel) (by decide +kernel), rfl, by decide +kernel, by decide +kernel, by decide +kernel⟩
theorem mv_X11_213 : gV RX11 213 RX11 yX11_emit cX11_emit 6 (some .int) 4 := ⟨gt_in 1349 (by decide +kernel) (by decide +kernel), gt_in 1351 (by decide +kernel) (by decide +kernel), gt_in 75 (by decide +kernel) (by decide +kernel), gt_in 99 (by decide +kernel) (by decide +kernel), gt_in 1352 (by decide +kernel) (by decide +kernel), rfl, by decide +kernel, by decide +kernel, by decide +kernel⟩
theorem mv_X11_217 : gV RX11 217 RX11 yX11_factor cX11_factor 6 none 0 := ⟨gt_in 1330 (by decide +kernel) (by decide +kernel), gt_in 1332 (by decide +kernel) (by decide +kernel), gt_in 72 (by decide +kernel) (by decide +kernel), gt_in 99 (by decide +kernel) (by decide +kernel), gt_in 1333 (by decide +kernel) (by decide +kernel), rfl, by decide +kernel, by decide +kernel, by decide +kernel⟩
theorem mv_X11_220 : gV RX11 220 RX11 yX11_join cX11_join 6 none 4 := ⟨gt_in 1361 (by decide +kernel) (by decide +kernel), gt_in 1363 (by decide +kernel) (by decide +kernel), gt_in 78 (by decide +kernel) (by decide +kernel), gt_in 99 (by decide +kernel) (by decide +kernel), gt_in 1364 (by decide +kernel) (by decide +kernel), rfl, by decide +kernel, by decide +kernel, by decide +kernel⟩
theorem mv_X11_224 : gV RX11 224 RX11 yX11_term cX11_term 4 none 0 := ⟨gt_in 1326 (by decide +kernel) (by decide +kernel), gt_in 1328 (by decide +kernel) (by decide +kernel), gt_in 71 (by decide +kernel) (by decide +kernel), gt_in 99 (by decide +kernel) (by decide +kernel), gt_in 1329 (by decide +kernel) (by decide +kernel), rfl, by decide +kernel, by decide +kernel, by decide +kernel⟩
theorem mv_X11_227 : gV RX11 227 RX11 yX11_sum cX11_sum 5 none 0 := ⟨gt_in 1322 (by decide +kernel) (by decide +kernel), gt_in 1324 (by decide +kernel) (by decide +kernel), gt_in 70 (by decide +kernel) (by decide +kernel), gt_in 99 (by decide +kernel) (by decide +kernel), gt_in 1325 (by decide +kernel) (by decide +kernel), rfl, by decide +kernel, by decide +kernel, by decide +kernel⟩
theorem mv_X11_233 : gV RX11 233 RX11 yX11_statements cX11_statements 2 none 0 := ⟨gt_in 1280 (by decide +kernel) (by decide +kernel), gt_in 1282 (by decide +kernel) (by decide +kernel), gt_in 61 (by decide +kernel) (by decide +kernel), gt_in 99 (by decide +kernel) (by decide +kernel), gt_in 1283 (by decide +kernel) (by decide +kernel), rfl, by decide +kernel, by decide +kernel, by decide +kernel⟩
theorem mv_X11_236 : gV RX11 236 RX11 yX11_way cX11_way 3 none 2 := ⟨gt_in 1377 (by decide +kernel) (by decide +kernel), gt_in 1379 (by decide +kernel) (by decide +kernel), gt_in 82 (by decide +kernel) (by decide +kernel), gt_in 99 (by decide +kernel) (by decide +kernel), gt_in 1380 (by decide +kernel) (by decide +kernel), rfl, by decide +kernel, by decide +kernel, by decide +kernel⟩
theorem mv_X11_240 : gV RX11 240 RX11 yX11_endBlock cX11_endBlock 2 (some .int) 0 := ⟨gt_in 1373 (by decide +kernel) (by decide +kernel), gt_in 1375 (by decide +kernel) (by decide +kernel), gt_in 81 (by decide +kernel) (by decide +kernel), gt_in 99 (by decide +kernel) (by decide +kernel), gt_in 1376 (by decide +kernel) (by decide +kernel), rfl, by decide +kernel, by decide +kernel, by decide +kernel⟩
theorem mv_X11_243 : gV RX11 243 RX11 yX11_inBraces cX11_inBraces 1 none 0 := ⟨gt_in 1381 (by decide +kernel) (by decide +kernel), gt_in 1383 (by decide +kernel) (by decide +kernel), gt_in 83 (by decide +kernel) (by decide +kernel), gt_in 99 (by decide +kernel) (by decide +kernel), gt_in 1384 (by decide +kernel) (by decide +kernel), rfl, by decide +kernel, by decide +kernel, by decide +kernel⟩
theorem mv_X11_246 : gV RX11 246 RX11 yX11_leaveOpen cX11_leaveOpen 1 none 0 := ⟨gt_in 1385 (by decide +kernel) (by decide +kernel), gt_in 1387 (by decide +kernel) (by decide +kernel), gt_in 84 (by decide +kernel) (by decide +kernel), gt_in 99 (by decide +kernel) (by decide +kernel), gt_in 1388 (by decide +kernel) (by decide +kernel), rfl, by decide +kernel, by decide +kernel, by decide +kernel⟩
theorem mv_X11_249 : gV RX11 249 RX11 yX11_assignment cX11_assignment 7 none 0 := ⟨gt_in 1306 (by decide +kernel) (by decide +kernel), gt_in 1308 (by decide +kernel) (by decide +kernel), gt_in 66 (by decide +kernel) (by decide +kernel), gt_in 99 (by decide +kernel) (by decide +kernel), gt_in 1309 (by decide +kernel) (by decide +kernel), rfl, by decide +kernel, by decide +kernel, by decide +kernel⟩
theorem mv_X11_252 : gV RX11 252 RX11 yX11_writing cX11_writing 5 none 0 := ⟨gt_in 1365 (by decide +kernel) (by decide +kernel), gt_in 1367 (by decide +kernel) (by decide +kernel), gt_in 79 (by decide +kernel) (by decide +kernel), gt_in 99 (by decide +kernel) (by decide +kernel), gt_in 1368 (by decide +kernel) (by decide +kernel), rfl, by decide +kernel, by decide +kernel, by decide +kernel⟩
theorem mv_X11_255 : gV RX11 255 RX11 yX11_choice cX11_choice 3 none 0 := ⟨gt_in 1369 (by decide +kernel) (by decide +kernel), gt_in 1371 (by decide +kernel) (by decide +kernel), gt_in 80 (by decide +kernel) (by decide +kernel), gt_in 99 (by decide +kernel) (by decide +kernel), gt_in 1372 (by decide +kernel) (by decide +kernel), rfl, by decide +kernel, by decide +kernel, by decide +kernel⟩
theorem mv_X11_258 : gV RX11 258 RX11 yX11_loop cX11_loop 2 none 0 := ⟨gt_in 1389 (by decide +kernel) (by decide +kernel), gt_in 1391 (by decide +kernel) (by decide +kernel), gt_in 85 (by decide +kernel) (by decide +kernel), gt_in 99 (by decide +kernel) (by decide +kernel), gt_in 1392 (by decide +kernel) (by decide +kernel), rfl, by decide +kernel, by decide +kernel, by decide +kernel⟩
theorem mv_X11_267 : gV RX11 267 RX11 yX11_lay cX11_lay 2 none 0 := ⟨gt_in 1025 (by decide +kernel) (by decide +kernel), gt_in 1027 (by decide +kernel) (by decide +kernel), gt_in 41 (by decide +kernel) (by decide +kernel), gt_in 99 (by decide +kernel) (by decide +kernel), gt_in 1028 (by decide +kernel) (by decide +kernel), rfl, by decide +kernel, by decide +kernel, by decide +kernel⟩
theorem mv_X11_270 : gV RX11 270 RX11 yX11_usesValue cX11_usesValue 3 (some .boolean) 2 := ⟨gt_in 1045 (by decide +kernel) (by decide +kernel), gt_in 1047 (by decide +kernel) (by decide +kernel), gt_in 46 (by decide +kernel) (by decide +kernel), gt_in 99 (by decide +kernel) (by decide +kernel), gt_in 1048 (by decide +kernel) (by decide +kernel), rfl, by decide +kernel, by decide +kernel, by decide +kernel⟩
theorem mv_X11_274 : gV RX11 274 RX11 yX11_usesVariable cX11_usesVariable 3 (some .boolean) 2 := ⟨gt_in 1049 (by decide +kernel) (by decide +kernel), gt_in 1051 (by decide +kernel) (by decide +kernel), gt_in 47 (by decide +kernel) (by decide +kernel), gt_in 99 (by decide +kernel) (by decide +kernel), gt_in 1052 (by decide +kernel) (by decide +kernel), rfl, by decide +kernel, by decide +kernel, by decide +kernel⟩
theorem mv_X11_280 : gV RX11 280 RX11 yX11_latencyOf cX11_latencyOf 2 (some .int) 1 := ⟨gt_in 1056 (by decide +kernel) (by decide +kernel), gt_in 1058 (by decide +kernel) (by decide +kernel), gt_in 48 (by decide +kernel) (by decide +kernel), gt_in 99 (by decide +kernel) (by decide +kernel), gt_in 1059 (by decide +kernel) (by decide +kernel), rfl, by decide +kernel, by decide +kernel, by decide +kernel⟩
theorem mv_X11_283 : gV RX11 283 RX11 yX11_first cX11_first 3 (some .int) 1 := ⟨gt_in 1033 (by decide +kernel) (by decide +kernel), gt_in 1035 (by decide +kernel) (by decide +kernel), gt_in 43 (by decide +kernel) (by decide +kernel), gt_in 99 (by decide +kernel) (by decide +kernel), gt_in 1036 (by decide +kernel) (by decide +kernel), rfl, by decide +kernel, by decide +kernel, by decide +kernel⟩
theorem mv_X11_286 : gV RX11 286 RX11 yX11_comesBehind cX11_comesBehind 4 (some .boolean) 2 := ⟨gt_in 1041 (by decide +kernel) (by decide +kernel), gt_in 1043 (by decide +kernel) (by decide +kernel), gt_in 45 (by decide +kernel) (by decide +kernel), gt_in 99 (by decide +kernel) (by decide +kernel), gt_in 1044 (by decide +kernel) (by decide +kernel), rfl, by decide +kernel, by decide +kernel, by decide +kernel⟩
theorem mv_X11_289 : gV RX11 289 RX11 yX11_endOf cX11_endOf 2 (some .int) 1 := ⟨gt_in 1068 (by decide +kernel) (by decide +kernel), gt_in 1070 (by decide +kernel) (by decide +kernel), gt_in 51 (by decide +kernel) (by decide +kernel), gt_in 99 (by decide +kernel) (by decide +kernel), gt_in 1071 (by decide +kernel) (by decide +kernel), rfl, by decide +kernel, by decide +kernel, by decide +kernel⟩
theorem mv_X11_292 : gV RX11 292 RX11 yX11_behindAll cX11_behindAll 4 (some .int) 1 := ⟨gt_in 1037 (by decide +kernel) (by decide +kernel), gt_in 1039 (by decide +kernel) (by decide +kernel), gt_in 44 (by decide +kernel) (by decide +kernel), gt_in 99 (by decide +kernel) (by decide +kernel), gt_in 1040 (by decide +kernel) (by decide +kernel), rfl, by decide +kernel, by decide +kernel, by decide +kernel⟩
theorem mv_X11_295 : gV RX11 295 RX11 yX11_isReady cX11_isReady 5 (some .boolean) 3 := ⟨gt_in 1064 (by decide +kernel) (by decide +kernel), gt_in 1066 (by decide +kernel) (by decide +kernel), gt_in 50 (by decide +kernel) (by decide +kernel), gt_in 99 (by decide +kernel) (by decide +kernel), gt_in 1067 (by decide +kernel) (by decide +kernel), rfl, by decide +kernel, by decide +kernel, by decide +kernel⟩
theorem mv_X11_299 : gV RX11 299 RX11 yX11_freeUnit cX11_freeUnit 11 (some .int) 3 := ⟨gt_in 1072 (by decide +kernel) (by decide +kernel), gt_in 1074 (by decide +kernel) (by decide +kernel), gt_in 52 (by decide +kernel) (by decide +kernel), gt_in 99 (by decide +kernel) (by decide +kernel), gt_in 1075 (by decide +kernel) (by decide +kernel), rfl, by decide +kernel, by decide +kernel, by decide +kernel⟩
theorem mv_X11_303 : gV RX11 303 RX11 yX11_beginOne cX11_beginOne 9 (some .boolean) 2 := ⟨gt_in 1060 (by decide +kernel) (by decide +kernel), gt_in 1062 (by decide +kernel) (by decide +kernel), gt_in 49 (by decide +kernel) (by decide +kernel), gt_in 99 (by decide +kernel) (by decide +kernel), gt_in 1063 (by decide +kernel) (by decide +kernel), rfl, by decide +kernel, by decide +kernel, by decide +kernel⟩
theorem mv_X11_306 : gV RX11 306 RX11 yX11_isEnd cX11_isEnd 3 (some .boolean) 2 := ⟨gt_in 1084 (by decide +kernel) (by decide +kernel), gt_in 1086 (by decide +kernel) (by decide +kernel), gt_in 55 (by decide +kernel) (by decide +kernel), gt_in 99 (by decide +kernel) (by decide +kernel), gt_in 1087 (by decide +kernel) (by decide +kernel), rfl, by decide +kernel, by decide +kernel, by decide +kernel⟩
theorem mv_X11_309 : gV RX11 309 RX11 yX11_meet cX11_meet 3 (some .boolean) 2 := ⟨gt_in 1100 (by decide +kernel) (by decide +kernel), gt_in 1102 (by decide +kernel) (by decide +kernel), gt_in 59 (by decide +kernel) (by decide +kernel), gt_in 99 (by decide +kernel) (by decide +kernel), gt_in 1103 (by decide +kernel) (by decide +kernel), rfl, by decide +kernel, by decide +kernel, by decide +kernel⟩
theorem mv_X11_312 : gV RX11 312 RX11 yX11_heldTo cX11_heldTo 6 (some .int) 1 := ⟨gt_in 1080 (by decide +kernel) (by decide +kernel), gt_in 1082 (by decide +kernel) (by decide +kernel), gt_in 54 (by decide +kernel) (by decide +kernel), gt_in 99 (by decide +kernel) (by decide +kernel), gt_in 1083 (by decide +kernel) (by decide +kernel), rfl, by decide +kernel, by decide +kernel, by decide +kernel⟩
theorem mv_X11_315 : gV RX11 315 RX11 yX11_holds cX11_holds 2 (some .boolean) 1 := ⟨gt_in 1088 (by decide +kernel) (by decide +kernel), gt_in 1090 (by decide +kernel) (by decide +kernel), gt_in 56 (by decide +kernel) (by decide +kernel), gt_in 99 (by decide +kernel) (by decide +kernel), gt_in 1091 (by decide +kernel) (by decide +kernel), rfl, by decide +kernel, by decide +kernel, by decide +kernel⟩
theorem mv_X11_318 : gV RX11 318 RX11 yX11_isBefore cX11_isBefore 3 (some .boolean) 2 := ⟨gt_in 1092 (by decide +kernel) (by decide +kernel), gt_in 1094 (by decide +kernel) (by decide +kernel), gt_in 57 (by decide +kernel) (by decide +kernel), gt_in 99 (by decide +kernel) (by decide +kernel), gt_in 1095 (by decide +kernel) (by decide +kernel), rfl, by decide +kernel, by decide +kernel, by decide +kernel⟩
theorem mv_X11_321 : gV RX11 321 RX11 yX11_bindOne cX11_bindOne 6 none 1 := ⟨gt_in 1096 (by decide +kernel) (by decide +kernel), gt_in 1098 (by decide +kernel) (by decide +kernel), gt_in 58 (by decide +kernel) (by decide +kernel), gt_in 99 (by decide +kernel) (by decide +kernel), gt_in 1099 (by decide +kernel) (by decide +kernel), rfl, by decide +kernel, by decide +kernel, by decide +kernel⟩
theorem mv_X11_324 : gV RX11 324 RX11 yX11_layBlock cX11_layBlock 7 none 1 := ⟨gt_in 1029 (by decide +kernel) (by decide +kernel), gt_in 1031 (by decide +kernel) (by decide +kernel), gt_in 42 (by decide +kernel) (by decide +kernel), gt_in 99 (by decide +kernel) (by decide +kernel), gt_in 1032 (by decide +kernel) (by decide +kernel), rfl, by decide +kernel, by decide +kernel, by decide +kernel⟩
theorem mv_X11_327 : gV RX11 327 RX11 yX11_bindRegisters cX11_bindRegisters 5 none 0 := ⟨gt_in 1076 (by decide +kernel) (by decide +kernel), gt_in 1078 (by decide +kernel) (by decide +kernel), gt_in 53 (by decide +kernel) (by decide +kernel), gt_in 99 (by decide +kernel) (by decide +kernel), gt_in 1079 (by decide +kernel) (by decide +kernel), rfl, by decide +kernel, by decide +kernel, by decide +kernel⟩
theorem mv_X11_330 : gV RX11 330 RX11 yX11_stand cX11_stand 1 none 0 := ⟨gt_in 1104 (by decide +kernel) (by decide +kernel), gt_in 1106 (by decide +kernel) (by decide +kernel), gt_in 60 (by decide +kernel) (by decide +kernel), gt_in 99 (by decide +kernel) (by decide +kernel), gt_in 1107 (by decide +kernel) (by decide +kernel), rfl, by decide +kernel, by decide +kernel, by decide +kernel⟩
theorem mv_X11_340 : gV RX11 340 RX11 yX11_look cX11_look 3 (some .int) 2 := ⟨gt_in 1445 (by decide +kernel) (by decide +kernel), gt_in 1447 (by decide +kernel) (by decide +kernel), gt_in 87 (by decide +kernel) (by decide +kernel), gt_in 99 (by decide +kernel) (by decide +kernel), gt_in 1448 (by decide +kernel) (by decide +kernel), rfl, by decide +kernel, by decide +kernel, by decide +kernel⟩
theorem mv_X11_344 : gV RX11 344 RX11 yX11_doOperation cX11_doOperation 4 none 1 := ⟨gt_in 1441 (by decide +kernel) (by decide +kernel), gt_in 1443 (by decide +kernel) (by decide +kernel), gt_in 86 (by decide +kernel) (by decide +kernel), gt_in 99 (by decide +kernel) (by decide +kernel), gt_in 1444 (by decide +kernel) (by decide +kernel), rfl, by decide +kernel, by decide +kernel, by decide +kernel⟩
theorem mv_X1_108 : gV RX1 108 RX1 yX1_begins cX1_begins 4 (some .boolean) 2 := ⟨gt_in 753 (by decide +kernel) (by decide +kernel), gt_in 755 (by decide +kernel) (by decide +kernel), gt_in 29 (by decide +kernel) (by decide +kernel), gt_in 94 (by decide +kernel) (by decide +kernel), gt_in 756 (by decide +kernel) (by decide +kernel), rfl, by decide +kernel, by decide +kernel, by decide +kernel⟩
theorem mv_X1_112 : gV RX1 112 RX4 yX4_end cX4_end 1 (some .int) 0 := ⟨gt_in 765 (by decide +kernel) (by decide +kernel), gt_in 766 (by decide +kernel) (by decide +kernel), gt_in 767 (by decide +kernel) (by decide +kernel), gt_in 97 (by decide +kernel) (by decide +kernel), gt_in 768 (by decide +kernel) (by decide +kernel), rfl, by decide +kernel, by decide +kernel, by decide +kernel⟩
theorem mv_X1_116 : gV RX1 116 RX1 yX1_tellThoseBehind cX1_tellThoseBehind 6 none 3 := ⟨gt_in 769 (by decide +kernel) (by decide +kernel), gt_in 771 (by decide +kernel) (by decide +kernel), gt_in 31 (by decide +kernel) (by decide +kernel), gt_in 94 (by decide +kernel) (by decide +kernel), gt_in 772 (by decide +kernel) (by decide +kernel), rfl, by decide +kernel, by decide +kernel, by decide +kernel⟩
theorem mv_X1_120 : gV RX1 120 RX4 yX4_hasBegun cX4_hasBegun 1 (some .boolean) 0 := ⟨gt_in 757 (by decide +kernel) (by decide +kernel), gt_in 758 (by decide +kernel) (by decide +kernel), gt_in 759 (by decide +kernel) (by decide +kernel), gt_in 97 (by decide +kernel) (by decide +kernel), gt_in 760 (by decide +kernel) (by decide +kernel), rfl, by decide +kernel, by decide +kernel, by decide +kernel⟩
theorem mv_X1_124 : gV RX1 124 RX1 yX1_freeUnit cX1_freeUnit 4 (some .int) 2 := ⟨gt_in 761 (by decide +kernel) (by decide +kernel), gt_in 763 (by decide +kernel) (by decide +kernel), gt_in 30 (by decide +kernel) (by decide +kernel), gt_in 94 (by decide +kernel) (by decide +kernel), gt_in 764 (by decide +kernel) (by decide +kernel), rfl, by decide +kernel, by decide +kernel, by decide +kernel⟩
theorem mv_X1_136 : gV RX1 136 RX1 yX1_noteUse cX1_noteUse 5 none 3 := ⟨gt_in 777 (by decide +kernel) (by decide +kernel), gt_in 779 (by decide +kernel) (by decide +kernel), gt_in 33 (by decide +kernel) (by decide +kernel), gt_in 94 (by decide +kernel) (by decide +kernel), gt_in 780 (by decide +kernel) (by decide +kernel), rfl, by decide +kernel, by decide +kernel, by decide +kernel⟩
theorem mv_X1_160 : gV RX1 160 RX4 yX4_fillsRegister cX4_fillsRegister 1 (some .boolean) 0 := ⟨gt_in 787 (by decide +kernel) (by decide +kernel), gt_in 788 (by decide +kernel) (by decide +kernel), gt_in 789 (by decide +kernel) (by decide +kernel), gt_in 97 (by decide +kernel) (by decide +kernel), gt_in 790 (by decide +kernel) (by decide +kernel), rfl, by decide +kernel, by decide +kernel, by decide +kernel⟩
theorem mv_X1_163 : gV RX1 163 RX1 yX1_freeRegister cX1_freeRegister 4 (some .int) 2 := ⟨gt_in 791 (by decide +kernel) (by decide +kernel), gt_in 793 (by decide +kernel) (by decide +kernel), gt_in 35 (by decide +kernel) (by decide +kernel), gt_in 94 (by decide +kernel) (by decide +kernel), gt_in 794 (by decide +kernel) (by decide +kernel), rfl, by decide +kernel, by decide +kernel, by decide +kernel⟩
theorem mv_X1_40 : gV RX1 40 RX1 yX1_prepare cX1_prepare 5 none 2 := ⟨gt_in 716 (by decide +kernel) (by decide +kernel), gt_in 718 (by decide +kernel) (by decide +kernel), gt_in 22 (by decide +kernel) (by decide +kernel), gt_in 94 (by decide +kernel) (by decide +kernel), gt_in 719 (by decide +kernel) (by decide +kernel), rfl, by decide +kernel, by decide +kernel, by decide +kernel⟩
theorem mv_X1_44 : gV RX1 44 RX1 yX1_measureHeights cX1_measureHeights 9 none 2 := ⟨gt_in 720 (by decide +kernel) (by decide +kernel), gt_in 722 (by decide +kernel) (by decide +kernel), gt_in 23 (by decide +kernel) (by decide +kernel), gt_in 94 (by decide +kernel) (by decide +kernel), gt_in 723 (by decide +kernel) (by decide +kernel), rfl, by decide +kernel, by decide +kernel, by decide +kernel⟩
theorem mv_X1_47 : gV RX1 47 RX1 yX1_rank cX1_rank 6 none 2 := ⟨gt_in 745 (by decide +kernel) (by decide +kernel), gt_in 747 (by decide +kernel) (by decide +kernel), gt_in 27 (by decide +kernel) (by decide +kernel), gt_in 94 (by decide +kernel) (by decide +kernel), gt_in 748 (by decide +kernel) (by decide +kernel), rfl, by decide +kernel, by decide +kernel, by decide +kernel⟩
theorem mv_X1_50 : gV RX1 50 RX1 yX1_beginAll cX1_beginAll 6 none 2 := ⟨gt_in 749 (by decide +kernel) (by decide +kernel), gt_in 751 (by decide +kernel) (by decide +kernel), gt_in 28 (by decide +kernel) (by decide +kernel), gt_in 94 (by decide +kernel) (by decide +kernel), gt_in 752 (by decide +kernel) (by decide +kernel), rfl, by decide +kernel, by decide +kernel, by decide +kernel⟩
theorem mv_X1_53 : gV RX1 53 RX1 yX1_noteUses cX1_noteUses 5 none 2 := ⟨gt_in 773 (by decide +kernel) (by decide +kernel), gt_in 775 (by decide +kernel) (by decide +kernel), gt_in 32 (by decide +kernel) (by decide +kernel), gt_in 94 (by decide +kernel) (by decide +kernel), gt_in 776 (by decide +kernel) (by decide +kernel), rfl, by decide +kernel, by decide +kernel, by decide +kernel⟩
theorem mv_X1_56 : gV RX1 56 RX1 yX1_bindRegisters cX1_bindRegisters 6 none 2 := ⟨gt_in 783 (by decide +kernel) (by decide +kernel), gt_in 785 (by decide +kernel) (by decide +kernel), gt_in 34 (by decide +kernel) (by decide +kernel), gt_in 94 (by decide +kernel) (by decide +kernel), gt_in 786 (by decide +kernel) (by decide +kernel), rfl, by decide +kernel, by decide +kernel, by decide +kernel⟩
theorem mv_X1_89 : gV RX1 89 RX4 yX4_comesBehind cX4_comesBehind 2 (some .boolean) 1 := ⟨gt_in 724 (by decide +kernel) (by decide +kernel), gt_in 725 (by decide +kernel) (by decide +kernel), gt_in 726 (by decide +kernel) (by decide +kernel), gt_in 97 (by decide +kernel) (by decide +kernel), gt_in 727 (by decide +kernel) (by decide +kernel), rfl, by decide +kernel, by decide +kernel, by decide +kernel⟩
theorem mv_X2_42 : gV RX2 42 RX2 yX2_perform cX2_perform 4 none 1 := ⟨gt_in 995 (by decide +kernel) (by decide +kernel), gt_in 997 (by decide +kernel) (by decide +kernel), gt_in 37 (by decide +kernel) (by decide +kernel), gt_in 95 (by decide +kernel) (by decide +kernel), gt_in 998 (by decide +kernel) (by decide +kernel), rfl, by decide +kernel, by decide +kernel, by decide +kernel⟩
theorem mv_X2_61 : gV RX2 61 RX2 yX2_outcome cX2_outcome 4 (some .int) 1 := ⟨gt_in 999 (by decide +kernel) (by decide +kernel), gt_in 1001 (by decide +kernel) (by decide +kernel), gt_in 38 (by decide +kernel) (by decide +kernel), gt_in 95 (by decide +kernel) (by decide +kernel), gt_in 1002 (by decide +kernel) (by decide +kernel), rfl, by decide +kernel, by decide +kernel, by decide +kernel⟩
theorem mv_X2_77 : gV RX2 77 RX2 yX2_taken cX2_taken 2 (some .int) 1 := ⟨gt_in 1003 (by decide +kernel) (by decide +kernel), gt_in 1005 (by decide +kernel) (by decide +kernel), gt_in 39 (by decide +kernel) (by decide +kernel), gt_in 95 (by decide +kernel) (by decide +kernel), gt_in 1006 (by decide +kernel) (by decide +kernel), rfl, by decide +kernel, by decide +kernel, by decide +kernel⟩
theorem mv_X4_45 : gV RX4 45 RX4 yX4_uses cX4_uses 2 (some .boolean) 1 := ⟨gt_in 729 (by decide +kernel) (by decide +kernel), gt_in 731 (by decide +kernel) (by decide +kernel), gt_in 24 (by decide +kernel) (by decide +kernel), gt_in 97 (by decide +kernel) (by decide +kernel), gt_in 732 (by decide +kernel) (by decide +kernel), rfl, by decide +kernel, by decide +kernel, by decide +kernel⟩
theorem mv_X4_49 : gV RX4 49 RX4 yX4_touchesGiven cX4_touchesGiven 2 (some .boolean) 1 := ⟨gt_in 733 (by decide +kernel) (by decide +kernel), gt_in 735 (by decide +kernel) (by decide +kernel), gt_in 25 (by decide +kernel) (by decide +kernel), gt_in 97 (by decide +kernel) (by decide +kernel), gt_in 736 (by decide +kernel) (by decide +kernel), rfl, by decide +kernel, by decide +kernel, by decide +kernel⟩
theorem mv_X4_53 : gV RX4 53 RX4 yX4_usesGiven cX4_usesGiven 2 (some .boolean) 1 := ⟨gt_in 737 (by decide +kernel) (by decide +kernel), gt_in 739 (by decide +kernel) (by decide +kernel), gt_in 26 (by decide +kernel) (by decide +kernel), gt_in 97 (by decide +kernel) (by decide +kernel), gt_in 740 (by decide +kernel) (by decide +kernel), rfl, by decide +kernel, by decide +kernel, by decide +kernel⟩
theorem mv_X5_35 : gV RX5 35 RX0 yX0_become cX0_become 2 none 1 := ⟨gt_in 574 (by decide +kernel) (by decide +kernel), gt_in 575 (by decide +kernel) (by decide +kernel), gt_in 576 (by decide +kernel) (by decide +kernel), gt_in 98 (by decide +kernel) (by decide +kernel), gt_in 577 (by decide +kernel) (by decide +kernel), rfl, by decide +kernel, by decide +kernel, by decide +kernel⟩
theorem mv_X5_39 : gV RX5 39 RX4 yX4_become cX4_become 4 none 3 := ⟨gt_in 654 (by decide +kernel) (by decide +kernel), gt_in 655 (by decide +kernel) (by decide +kernel), gt_in 656 (by decide +kernel) (by decide +kernel), gt_in 97 (by decide +kernel) (by decide +kernel), gt_in 657 (by decide +kernel) (by decide +kernel), rfl, by decide +kernel, by decide +kernel, by decide +kernel⟩
theorem mv_X6_28 : gV RX6 28 RX6 yX6_look cX6_look 1 (some .int) 0 := ⟨gt_in 485 (by decide +kernel) (by decide +kernel), gt_in 486 (by decide +kernel) (by decide +kernel), gt_in 487 (by decide +kernel) (by decide +kernel), gt_in 92 (by decide +kernel) (by decide +kernel), gt_in 488 (by decide +kernel) (by decide +kernel), rfl, by decide +kernel, by decide +kernel, by decide +kernel⟩
theorem mv_X6_32 : gV RX6 32 RX6 yX6_lettersHere cX6_lettersHere 2 (some .int) 0 := ⟨gt_in 501 (by decide +kernel) (by decide +kernel), gt_in 503 (by decide +kernel) (by decide +kernel), gt_in 2 (by decide +kernel) (by decide +kernel), gt_in 92 (by decide +kernel) (by decide +kernel), gt_in 504 (by decide +kernel) (by decide +kernel), rfl, by decide +kernel, by decide +kernel, by decide +kernel⟩
theorem mv_X6_35 : gV RX6 35 RJ0 yJ0_length_8abf5 cJ0_length_8abf5 1 (some .int) 0 := ⟨gt_in 505 (by decide +kernel) (by decide +kernel), gt_in 506 (by decide +kernel) (by decide +kernel), gt_in 507 (by decide +kernel) (by decide +kernel), gt_in 106 (by decide +kernel) (by decide +kernel), gt_in 508 (by decide +kernel) (by decide +kernel), rfl, by decide +kernel, by decide +kernel, by decide +kernel⟩
theorem mv_X6_39 : gV RX6 39 RJ0 yJ0_charAt_5068e cJ0_charAt_5068e 2 (some .char) 1 := ⟨gt_in 515 (by decide +kernel) (by decide +kernel), gt_in 516 (by decide +kernel) (by decide +kernel), gt_in 517 (by decide +kernel) (by decide +kernel), gt_in 106 (by decide +kernel) (by decide +kernel), gt_in 518 (by decide +kernel) (by decide +kernel), rfl, by decide +kernel, by decide +kernel, by decide +kernel⟩
theorem mv_X8_103 : gV RX8 103 RX6 yX6_pass cX6_pass 2 none 1 := ⟨gt_in 557 (by decide +kernel) (by decide +kernel), gt_in 558 (by decide +kernel) (by decide +kernel), gt_in 559 (by decide +kernel) (by decide +kernel), gt_in 92 (by decide +kernel) (by decide +kernel), gt_in 560 (by decide +kernel) (by decide +kernel), rfl, by decide +kernel, by decide +kernel, by decide +kernel⟩
theorem mv_X8_107 : gV RX8 107 RX9 yX9_openBlock cX9_openBlock 1 none 0 := ⟨gt_in 566 (by decide +kernel) (by decide +kernel), gt_in 567 (by decide +kernel) (by decide +kernel), gt_in 568 (by decide +kernel) (by decide +kernel), gt_in 93 (by decide +kernel) (by decide +kernel), gt_in 569 (by decide +kernel) (by decide +kernel), rfl, by decide +kernel, by decide +kernel, by decide +kernel⟩
theorem mv_X8_110 : gV RX8 110 RX8 yX8_passes cX8_passes 2 (some .boolean) 1 := ⟨gt_in 611 (by decide +kernel) (by decide +kernel), gt_in 613 (by decide +kernel) (by decide +kernel), gt_in 13 (by decide +kernel) (by decide +kernel), gt_in 91 (by decide +kernel) (by decide +kernel), gt_in 614 (by decide +kernel) (by decide +kernel), rfl, by decide +kernel, by decide +kernel, by decide +kernel⟩
theorem mv_X8_113 : gV RX8 113 RX8 yX8_expression cX8_expression 4 (some .int) 0 := ⟨gt_in 578 (by decide +kernel) (by decide +kernel), gt_in 580 (by decide +kernel) (by decide +kernel), gt_in 5 (by decide +kernel) (by decide +kernel), gt_in 91 (by decide +kernel) (by decide +kernel), gt_in 581 (by decide +kernel) (by decide +kernel), rfl, by decide +kernel, by decide +kernel, by decide +kernel⟩
theorem mv_X8_121 : gV RX8 121 RX8 yX8_add cX8_add 5 (some .int) 4 := ⟨gt_in 642 (by decide +kernel) (by decide +kernel), gt_in 644 (by decide +kernel) (by decide +kernel), gt_in 16 (by decide +kernel) (by decide +kernel), gt_in 91 (by decide +kernel) (by decide +kernel), gt_in 645 (by decide +kernel) (by decide +kernel), rfl, by decide +kernel, by decide +kernel, by decide +kernel⟩
theorem mv_X8_138 : gV RX8 138 RX8 yX8_enclosed cX8_enclosed 4 (some .int) 2 := ⟨gt_in 595 (by decide +kernel) (by decide +kernel), gt_in 597 (by decide +kernel) (by decide +kernel), gt_in 9 (by decide +kernel) (by decide +kernel), gt_in 91 (by decide +kernel) (by decide +kernel), gt_in 598 (by decide +kernel) (by decide +kernel), rfl, by decide +kernel, by decide +kernel, by decide +kernel⟩
theorem mv_X8_142 : gV RX8 142 RX9 yX9_addJoint cX9_addJoint 2 (some .int) 0 := ⟨gt_in 561 (by decide +kernel) (by decide +kernel), gt_in 470 (by decide +kernel) (by decide +kernel), gt_in 471 (by decide +kernel) (by decide +kernel), gt_in 93 (by decide +kernel) (by decide +kernel), gt_in 472 (by decide +kernel) (by decide +kernel), rfl, by decide +kernel, by decide +kernel, by decide +kernel⟩
theorem mv_X8_145 : gV RX8 145 RX8 yX8_choice cX8_choice 4 (some .boolean) 2 := ⟨gt_in 562 (by decide +kernel) (by decide +kernel), gt_in 564 (by decide +kernel) (by decide +kernel), gt_in 4 (by decide +kernel) (by decide +kernel), gt_in 91 (by decide +kernel) (by decide +kernel), gt_in 565 (by decide +kernel) (by decide +kernel), rfl, by decide +kernel, by decide +kernel, by decide +kernel⟩
theorem mv_X8_149 : gV RX8 149 RX8 yX8_body cX8_body 2 (some .boolean) 1 := ⟨gt_in 675 (by decide +kernel) (by decide +kernel), gt_in 677 (by decide +kernel) (by decide +kernel), gt_in 17 (by decide +kernel) (by decide +kernel), gt_in 91 (by decide +kernel) (by decide +kernel), gt_in 678 (by decide +kernel) (by decide +kernel), rfl, by decide +kernel, by decide +kernel, by decide +kernel⟩
theorem mv_X8_154 : gV RX8 154 RX9 yX9_goTo cX9_goTo 2 none 1 := ⟨gt_in 681 (by decide +kernel) (by decide +kernel), gt_in 682 (by decide +kernel) (by decide +kernel), gt_in 683 (by decide +kernel) (by decide +kernel), gt_in 93 (by decide +kernel) (by decide +kernel), gt_in 684 (by decide +kernel) (by decide +kernel), rfl, by decide +kernel, by decide +kernel, by decide +kernel⟩
theorem mv_X8_157 : gV RX8 157 RX9 yX9_standAt cX9_standAt 2 none 1 := ⟨gt_in 679 (by decide +kernel) (by decide +kernel), gt_in 474 (by decide +kernel) (by decide +kernel), gt_in 475 (by decide +kernel) (by decide +kernel), gt_in 93 (by decide +kernel) (by decide +kernel), gt_in 476 (by decide +kernel) (by decide +kernel), rfl, by decide +kernel, by decide +kernel, by decide +kernel⟩
theorem mv_X8_160 : gV RX8 160 RX9 yX9_choose cX9_choose 4 none 3 := ⟨gt_in 671 (by decide +kernel) (by decide +kernel), gt_in 672 (by decide +kernel) (by decide +kernel), gt_in 673 (by decide +kernel) (by decide +kernel), gt_in 93 (by decide +kernel) (by decide +kernel), gt_in 674 (by decide +kernel) (by decide +kernel), rfl, by decide +kernel, by decide +kernel, by decide +kernel⟩
theorem mv_X8_164 : gV RX8 164 RX8 yX8_sum cX8_sum 5 (some .int) 0 := ⟨gt_in 582 (by decide +kernel) (by decide +kernel), gt_in 584 (by decide +kernel) (by decide +kernel), gt_in 6 (by decide +kernel) (by decide +kernel), gt_in 91 (by decide +kernel) (by decide +kernel), gt_in 585 (by decide +kernel) (by decide +kernel), rfl, by decide +kernel, by decide +kernel, by decide +kernel⟩
theorem mv_X8_167 : gV RX8 167 RX6 yX6_look cX6_look 1 (some .int) 0 := ⟨gt_in 594 (by decide +kernel) (by decide +kernel), gt_in 486 (by decide +kernel) (by decide +kernel), gt_in 487 (by decide +kernel) (by decide +kernel), gt_in 92 (by decide +kernel) (by decide +kernel), gt_in 488 (by decide +kernel) (by decide +kernel), rfl, by decide +kernel, by decide +kernel, by decide +kernel⟩
theorem mv_X8_170 : gV RX8 170 RX8 yX8_term cX8_term 4 (some .int) 0 := ⟨gt_in 586 (by decide +kernel) (by decide +kernel), gt_in 588 (by decide +kernel) (by decide +kernel), gt_in 7 (by decide +kernel) (by decide +kernel), gt_in 91 (by decide +kernel) (by decide +kernel), gt_in 589 (by decide +kernel) (by decide +kernel), rfl, by decide +kernel, by decide +kernel, by decide +kernel⟩
theorem mv_X8_173 : gV RX8 173 RX8 yX8_factor cX8_factor 2 (some .int) 0 := ⟨gt_in 590 (by decide +kernel) (by decide +kernel), gt_in 592 (by decide +kernel) (by decide +kernel), gt_in 8 (by decide +kernel) (by decide +kernel), gt_in 91 (by decide +kernel) (by decide +kernel), gt_in 593 (by decide +kernel) (by decide +kernel), rfl, by decide +kernel, by decide +kernel, by decide +kernel⟩
theorem mv_X8_176 : gV RX8 176 RX6 yX6_seesFigure cX6_seesFigure 1 (some .boolean) 0 := ⟨gt_in 615 (by decide +kernel) (by decide +kernel), gt_in 616 (by decide +kernel) (by decide +kernel), gt_in 617 (by decide +kernel) (by decide +kernel), gt_in 92 (by decide +kernel) (by decide +kernel), gt_in 618 (by decide +kernel) (by decide +kernel), rfl, by decide +kernel, by decide +kernel, by decide +kernel⟩
theorem mv_X8_179 : gV RX8 179 RX8 yX8_number cX8_number 4 (some .int) 0 := ⟨gt_in 622 (by decide +kernel) (by decide +kernel), gt_in 624 (by decide +kernel) (by decide +kernel), gt_in 14 (by decide +kernel) (by decide +kernel), gt_in 91 (by decide +kernel) (by decide +kernel), gt_in 625 (by decide +kernel) (by decide +kernel), rfl, by decide +kernel, by decide +kernel, by decide +kernel⟩
theorem mv_X8_182 : gV RX8 182 RX8 yX8_read cX8_read 3 (some .int) 0 := ⟨gt_in 638 (by decide +kernel) (by decide +kernel), gt_in 640 (by decide +kernel) (by decide +kernel), gt_in 15 (by decide +kernel) (by decide +kernel), gt_in 91 (by decide +kernel) (by decide +kernel), gt_in 641 (by decide +kernel) (by decide +kernel), rfl, by decide +kernel, by decide +kernel, by decide +kernel⟩
theorem mv_X8_188 : gV RX8 188 RX6 yX6_readNumber cX6_readNumber 3 (some .long) 0 := ⟨gt_in 626 (by decide +kernel) (by decide +kernel), gt_in 627 (by decide +kernel) (by decide +kernel), gt_in 628 (by decide +kernel) (by decide +kernel), gt_in 92 (by decide +kernel) (by decide +kernel), gt_in 629 (by decide +kernel) (by decide +kernel), rfl, by decide +kernel, by decide +kernel, by decide +kernel⟩
theorem mv_X8_194 : gV RX8 194 RX8 yX8_refuse cX8_refuse 3 (some .boolean) 2 := ⟨gt_in 607 (by decide +kernel) (by decide +kernel), gt_in 609 (by decide +kernel) (by decide +kernel), gt_in 12 (by decide +kernel) (by decide +kernel), gt_in 91 (by decide +kernel) (by decide +kernel), gt_in 610 (by decide +kernel) (by decide +kernel), rfl, by decide +kernel, by decide +kernel, by decide +kernel⟩
theorem mv_X8_197 : gV RX8 197 RX5 yX5_isFull cX5_isFull 1 (some .boolean) 0 := ⟨gt_in 646 (by decide +kernel) (by decide +kernel), gt_in 647 (by decide +kernel) (by decide +kernel), gt_in 648 (by decide +kernel) (by decide +kernel), gt_in 96 (by decide +kernel) (by decide +kernel), gt_in 649 (by decide +kernel) (by decide +kernel), rfl, by decide +kernel, by decide +kernel, by decide +kernel⟩
theorem mv_X8_200 : gV RX8 200 RX5 yX5_addOperation cX5_addOperation 5 (some (.object "CycleSynthesis$Operation")) 3 := ⟨gt_in 650 (by decide +kernel) (by decide +kernel), gt_in 651 (by decide +kernel) (by decide +kernel), gt_in 652 (by decide +kernel) (by decide +kernel), gt_in 96 (by decide +kernel) (by decide +kernel), gt_in 653 (by decide +kernel) (by decide +kernel), rfl, by decide +kernel, by decide +kernel, by decide +kernel⟩
theorem mv_X8_35 : gV RX8 35 RX5 yX5_clear cX5_clear 1 none 0 := ⟨gt_in 457 (by decide +kernel) (by decide +kernel), gt_in 458 (by decide +kernel) (by decide +kernel), gt_in 459 (by decide +kernel) (by decide +kernel), gt_in 96 (by decide +kernel) (by decide +kernel), gt_in 460 (by decide +kernel) (by decide +kernel), rfl, by decide +kernel, by decide +kernel, by decide +kernel⟩
theorem mv_X8_40 : gV RX8 40 RX6 yX6_rewind cX6_rewind 1 none 0 := ⟨gt_in 461 (by decide +kernel) (by decide +kernel), gt_in 462 (by decide +kernel) (by decide +kernel), gt_in 463 (by decide +kernel) (by decide +kernel), gt_in 92 (by decide +kernel) (by decide +kernel), gt_in 464 (by decide +kernel) (by decide +kernel), rfl, by decide +kernel, by decide +kernel, by decide +kernel⟩
theorem mv_X8_43 : gV RX8 43 RX9 yX9_start cX9_start 2 none 1 := ⟨gt_in 465 (by decide +kernel) (by decide +kernel), gt_in 466 (by decide +kernel) (by decide +kernel), gt_in 467 (by decide +kernel) (by decide +kernel), gt_in 93 (by decide +kernel) (by decide +kernel), gt_in 468 (by decide +kernel) (by decide +kernel), rfl, by decide +kernel, by decide +kernel, by decide +kernel⟩
theorem mv_X8_56 : gV RX8 56 RX8 yX8_statements cX8_statements 2 (some .boolean) 0 := ⟨gt_in 477 (by decide +kernel) (by decide +kernel), gt_in 479 (by decide +kernel) (by decide +kernel), gt_in 0 (by decide +kernel) (by decide +kernel), gt_in 91 (by decide +kernel) (by decide +kernel), gt_in 480 (by decide +kernel) (by decide +kernel), rfl, by decide +kernel, by decide +kernel, by decide +kernel⟩
theorem mv_X8_60 : gV RX8 60 RX8 yX8_meets cX8_meets 2 (some .boolean) 1 := ⟨gt_in 599 (by decide +kernel) (by decide +kernel), gt_in 601 (by decide +kernel) (by decide +kernel), gt_in 10 (by decide +kernel) (by decide +kernel), gt_in 91 (by decide +kernel) (by decide +kernel), gt_in 602 (by decide +kernel) (by decide +kernel), rfl, by decide +kernel, by decide +kernel, by decide +kernel⟩
theorem mv_X8_64 : gV RX8 64 RX9 yX9_settle cX9_settle 3 none 0 := ⟨gt_in 704 (by decide +kernel) (by decide +kernel), gt_in 705 (by decide +kernel) (by decide +kernel), gt_in 706 (by decide +kernel) (by decide +kernel), gt_in 93 (by decide +kernel) (by decide +kernel), gt_in 707 (by decide +kernel) (by decide +kernel), rfl, by decide +kernel, by decide +kernel, by decide +kernel⟩
theorem mv_X8_67 : gV RX8 67 RX6 yX6_seesLetter cX6_seesLetter 1 (some .boolean) 0 := ⟨gt_in 481 (by decide +kernel) (by decide +kernel), gt_in 482 (by decide +kernel) (by decide +kernel), gt_in 483 (by decide +kernel) (by decide +kernel), gt_in 92 (by decide +kernel) (by decide +kernel), gt_in 484 (by decide +kernel) (by decide +kernel), rfl, by decide +kernel, by decide +kernel, by decide +kernel⟩
theorem mv_X8_70 : gV RX8 70 RX8 yX8_statement cX8_statement 2 (some .boolean) 0 := ⟨gt_in 492 (by decide +kernel) (by decide +kernel), gt_in 494 (by decide +kernel) (by decide +kernel), gt_in 1 (by decide +kernel) (by decide +kernel), gt_in 91 (by decide +kernel) (by decide +kernel), gt_in 495 (by decide +kernel) (by decide +kernel), rfl, by decide +kernel, by decide +kernel, by decide +kernel⟩
theorem mv_X8_75 : gV RX8 75 RX6 yX6_seesWord cX6_seesWord 3 (some .boolean) 1 := ⟨gt_in 497 (by decide +kernel) (by decide +kernel), gt_in 498 (by decide +kernel) (by decide +kernel), gt_in 499 (by decide +kernel) (by decide +kernel), gt_in 92 (by decide +kernel) (by decide +kernel), gt_in 500 (by decide +kernel) (by decide +kernel), rfl, by decide +kernel, by decide +kernel, by decide +kernel⟩
theorem mv_X8_79 : gV RX8 79 RX8 yX8_ifStatement cX8_ifStatement 4 (some .boolean) 0 := ⟨gt_in 553 (by decide +kernel) (by decide +kernel), gt_in 555 (by decide +kernel) (by decide +kernel), gt_in 3 (by decide +kernel) (by decide +kernel), gt_in 91 (by decide +kernel) (by decide +kernel), gt_in 556 (by decide +kernel) (by decide +kernel), rfl, by decide +kernel, by decide +kernel, by decide +kernel⟩
theorem mv_X8_84 : gV RX8 84 RX8 yX8_whileStatement cX8_whileStatement 4 (some .boolean) 0 := ⟨gt_in 686 (by decide +kernel) (by decide +kernel), gt_in 688 (by decide +kernel) (by decide +kernel), gt_in 18 (by decide +kernel) (by decide +kernel), gt_in 91 (by decide +kernel) (by decide +kernel), gt_in 689 (by decide +kernel) (by decide +kernel), rfl, by decide +kernel, by decide +kernel, by decide +kernel⟩
theorem mv_X8_89 : gV RX8 89 RX8 yX8_write cX8_write 4 (some .boolean) 0 := ⟨gt_in 690 (by decide +kernel) (by decide +kernel), gt_in 692 (by decide +kernel) (by decide +kernel), gt_in 19 (by decide +kernel) (by decide +kernel), gt_in 91 (by decide +kernel) (by decide +kernel), gt_in 693 (by decide +kernel) (by decide +kernel), rfl, by decide +kernel, by decide +kernel, by decide +kernel⟩
theorem mv_X8_92 : gV RX8 92 RX6 yX6_seenVariable cX6_seenVariable 3 (some .int) 0 := ⟨gt_in 664 (by decide +kernel) (by decide +kernel), gt_in 665 (by decide +kernel) (by decide +kernel), gt_in 666 (by decide +kernel) (by decide +kernel), gt_in 92 (by decide +kernel) (by decide +kernel), gt_in 667 (by decide +kernel) (by decide +kernel), rfl, by decide +kernel, by decide +kernel, by decide +kernel⟩
theorem mv_X8_96 : gV RX8 96 RX8 yX8_refuseHere cX8_refuseHere 2 (some .boolean) 1 := ⟨gt_in 603 (by decide +kernel) (by decide +kernel), gt_in 605 (by decide +kernel) (by decide +kernel), gt_in 11 (by decide +kernel) (by decide +kernel), gt_in 91 (by decide +kernel) (by decide +kernel), gt_in 606 (by decide +kernel) (by decide +kernel), rfl, by decide +kernel, by decide +kernel, by decide +kernel⟩
theorem mv_X8_99 : gV RX8 99 RX8 yX8_assignment cX8_assignment 4 (some .boolean) 1 := ⟨gt_in 694 (by decide +kernel) (by decide +kernel), gt_in 696 (by decide +kernel) (by decide +kernel), gt_in 20 (by decide +kernel) (by decide +kernel), gt_in 91 (by decide +kernel) (by decide +kernel), gt_in 697 (by decide +kernel) (by decide +kernel), rfl, by decide +kernel, by decide +kernel, by decide +kernel⟩
theorem mv_X9_26 : gV RX9 26 RX9 yX9_addJoint cX9_addJoint 2 (some .int) 0 := ⟨gt_in 469 (by decide +kernel) (by decide +kernel), gt_in 470 (by decide +kernel) (by decide +kernel), gt_in 471 (by decide +kernel) (by decide +kernel), gt_in 93 (by decide +kernel) (by decide +kernel), gt_in 472 (by decide +kernel) (by decide +kernel), rfl, by decide +kernel, by decide +kernel, by decide +kernel⟩
theorem mv_X9_30 : gV RX9 30 RX9 yX9_standAt cX9_standAt 2 none 1 := ⟨gt_in 473 (by decide +kernel) (by decide +kernel), gt_in 474 (by decide +kernel) (by decide +kernel), gt_in 475 (by decide +kernel) (by decide +kernel), gt_in 93 (by decide +kernel) (by decide +kernel), gt_in 476 (by decide +kernel) (by decide +kernel), rfl, by decide +kernel, by decide +kernel, by decide +kernel⟩
theorem mv_X9_46 : gV RX9 46 RX5 yX5_addBlock cX5_addBlock 2 (some (.object "CycleSynthesis$Block")) 0 := ⟨gt_in 570 (by decide +kernel) (by decide +kernel), gt_in 571 (by decide +kernel) (by decide +kernel), gt_in 572 (by decide +kernel) (by decide +kernel), gt_in 96 (by decide +kernel) (by decide +kernel), gt_in 573 (by decide +kernel) (by decide +kernel), rfl, by decide +kernel, by decide +kernel, by decide +kernel⟩
theorem mv_X9_69 : gV RX9 69 RX9 yX9_blockFrom cX9_blockFrom 4 (some .int) 1 := ⟨gt_in 708 (by decide +kernel) (by decide +kernel), gt_in 710 (by decide +kernel) (by decide +kernel), gt_in 21 (by decide +kernel) (by decide +kernel), gt_in 93 (by decide +kernel) (by decide +kernel), gt_in 711 (by decide +kernel) (by decide +kernel), rfl, by decide +kernel, by decide +kernel, by decide +kernel⟩
end
section
/-! the class: its methods as functions over the memory (printed by program from the bytecode) -/
def Bk_become (n : Nat) (b0 : Nat) (a1 : Int32) (g : Mem) : Option (Mem) :=
lt9 (sI g 0 b0 0 a1) fun g1 =>
lt9 (sI g1 0 b0 1 (0 : Int32)) fun g2 =>
lt9 (sI g2 0 b0 2 (0 : Int32)) fun g3 =>
lt9 (sI g3 0 b0 3 (0 : Int32)) fun g4 =>
lt9 (sI g4 0 b0 4 (-1 : Int32)) fun g5 =>
lt9 (sI g5 0 b0 5 (-1 : Int32)) fun g6 =>
some g6

def Ly_allows (n : Nat) (a1 : Int32) (a2 : Int32) (a3 : Int32) : Option (Int32) :=
if a1 < 0 then (
some (0 : Int32))
else (
if (2 : Int32) < a1 then (
some (0 : Int32))
else (
if a2 < (1 : Int32) then (
some (0 : Int32))
else (
if (4 : Int32) < a2 then (
some (0 : Int32))
else (
if a3 < (1 : Int32) then (
some (0 : Int32))
else (
if a1 = 0 then (
if (1 : Int32) < a3 then (
some (0 : Int32))
else (
some (1 : Int32)))
else (
if (4 : Int32) < a3 then (
some (0 : Int32))
else (
some (1 : Int32))))))))

def Ly_supply (n : Nat) (a1 : Int32) (a2 : Int32) (a3 : Int32) (g : Mem) : Option (Mem) :=
(ix a1 3).bind fun j1 =>
lt9 (sI g 23 0 j1 a2) fun g2 =>
(ix a1 4).bind fun j3 =>
lt9 (sI g2 24 0 j3 a3) fun g4 =>
some g4

def Ly_freeUnit_L2 (n : Nat) (a1 : Int32) (a2 : Int32) (g : Mem) : Nat → Int32 → Option ((Int32) ⊕ (Unit))
| 0, _ => none
| k1 + 1, x2 =>
(ix a1 3).bind fun j3 =>
if (gI g 23 0 j3) ≤ x2 then (
some (.inr ()))
else (
(ix ((a1 * (4 : Int32)) + x2) 12).bind fun j4 =>
if a2 < (gI g 25 0 j4) then (
Ly_freeUnit_L2 n a1 a2 g k1 (x2 + 1))
else (
some (.inl x2)))
def Ly_freeUnit (n : Nat) (a1 : Int32) (a2 : Int32) (g : Mem) : Option (Int32) :=
(Ly_freeUnit_L2 n a1 a2 g n (0 : Int32)).bind fun r5 =>
match r5 with
| .inl t6 => (
some t6)
| .inr t7 => (
some (-1 : Int32))


def Op_end (n : Nat) (o0 : Nat) (g : Mem) : Option (Int32) :=
some ((gI g 3 o0 9) + (gI g 3 o0 7))

def Op_hasBegun (n : Nat) (o0 : Nat) (g : Mem) : Option (Int32) :=
if (gI g 3 o0 9) = (-1 : Int32) then (
some (0 : Int32))
else (
some (1 : Int32))

def Ly_begins (n : Nat) (o1 : Nat) (a2 : Int32) (g : Mem) : Option (Int32 × Mem) :=
(Op_hasBegun n o1 g).bind fun z1 =>
if z1 = 0 then (
if 0 < (gI g 3 o1 12) then (
some ((0 : Int32), g))
else (
if (gI g 3 o1 13) ≤ a2 then (
lt9 (fun (v4 : Int32) =>
if v4 = (-1 : Int32) then (
some ((0 : Int32), g))
else (
lt9 (sI g 3 o1 9 a2) fun g5 =>
lt9 (sI g5 3 o1 10 v4) fun g6 =>
if (gI g6 3 o1 2) = (3 : Int32) then (
lt9 (sI g6 1 0 5 ((gI g6 1 0 5) + (1 : Int32))) fun g10 =>
some ((1 : Int32), g10))
else (
(Op_end n o1 g6).bind fun z7 =>
(ix (((gI g6 3 o1 2) * (4 : Int32)) + v4) 12).bind fun j8 =>
lt9 (sI g6 25 0 j8 z7) fun g9 =>
some ((1 : Int32), g9)))) fun j2 =>
if (gI g 3 o1 2) = (3 : Int32) then (
j2 (gI g 1 0 5))
else (
(Ly_freeUnit n (gI g 3 o1 2) a2 g).bind fun z3 =>
j2 z3))
else (
some ((0 : Int32), g))))
else (
some ((0 : Int32), g))

def Od_ofValue (n : Nat) (a1 : Int32) : Option (Int32) :=
some ((-9 : Int32) - a1)

def Od_ofVariable (n : Nat) (a1 : Int32) : Option (Int32) :=
some ((-1 : Int32) - a1)

def Op_uses (n : Nat) (o0 : Nat) (a1 : Int32) (g : Mem) : Option (Int32) :=
if (gI g 3 o0 3) = a1 then (
some (1 : Int32))
else (
if (gI g 3 o0 4) = a1 then (
some (1 : Int32))
else (
some (0 : Int32)))

def Op_usesGiven (n : Nat) (o0 : Nat) (o1 : Nat) (g : Mem) : Option (Int32) :=
if (gI g 3 o1 5) = (-1 : Int32) then (
some (0 : Int32))
else (
(Od_ofVariable n (gI g 3 o1 5)).bind fun z1 =>
(Op_uses n o0 z1 g).bind fun z2 =>
if z2 = 0 then (
some (0 : Int32))
else (
some (1 : Int32)))

def Op_touchesGiven (n : Nat) (o0 : Nat) (o1 : Nat) (g : Mem) : Option (Int32) :=
(Op_usesGiven n o0 o1 g).bind fun z1 =>
if z1 = 0 then (
if (gI g 3 o0 5) = (-1 : Int32) then (
some (0 : Int32))
else (
if (gI g 3 o0 5) = (gI g 3 o1 5) then (
some (1 : Int32))
else (
some (0 : Int32))))
else (
some (1 : Int32))

def Op_comesBehind (n : Nat) (o0 : Nat) (o1 : Nat) (g : Mem) : Option (Int32) :=
(Od_ofValue n (gI g 3 o1 0)).bind fun z1 =>
(Op_uses n o0 z1 g).bind fun z2 =>
if z2 = 0 then (
(Op_touchesGiven n o0 o1 g).bind fun z3 =>
if z3 = 0 then (
(Op_usesGiven n o1 o0 g).bind fun z4 =>
if z4 = 0 then (
lt9 (fun (_u : Unit) =>
if (gI g 3 o1 1) = (2 : Int32) then (
if (gI g 3 o0 2) = (2 : Int32) then (
some (1 : Int32))
else (
some (0 : Int32)))
else (
some (0 : Int32))) fun j5 =>
if (gI g 3 o0 1) = (2 : Int32) then (
if (gI g 3 o1 2) = (2 : Int32) then (
some (1 : Int32))
else (
j5 ()))
else (
j5 ()))
else (
some (1 : Int32)))
else (
some (1 : Int32)))
else (
some (1 : Int32))

def Ly_tellThoseBehind_L8 (n : Nat) (b2 : Nat) (o3 : Nat) (p1 : Nat) : Nat → Int32 → Mem → Option (Mem)
| 0, _, _ => none
| k1 + 1, x2, g3 =>
if ((gI g3 0 b2 0) + (gI g3 0 b2 1)) ≤ x2 then (
some g3)
else (
(ix x2 200).bind fun j4 =>
(Op_comesBehind n (200 * p1 + j4) o3 g3).bind fun z5 =>
if z5 = 0 then (
Ly_tellThoseBehind_L8 n b2 o3 p1 k1 (x2 + 1) g3)
else (
lt9 (sI g3 3 (200 * p1 + j4) 12 ((gI g3 3 (200 * p1 + j4) 12) - (1 : Int32))) fun g6 =>
(Op_end n o3 g6).bind fun z7 =>
lt9 (sI g6 3 (200 * p1 + j4) 13 (imax (gI g6 3 (200 * p1 + j4) 13) z7)) fun g8 =>
Ly_tellThoseBehind_L8 n b2 o3 p1 k1 (x2 + 1) g8))
def Ly_tellThoseBehind (n : Nat) (p1 : Nat) (b2 : Nat) (o3 : Nat) (g : Mem) : Option (Mem) :=
(Ly_tellThoseBehind_L8 n b2 o3 p1 n ((gI g 3 o3 0) + (1 : Int32)) g).bind fun r9 =>
some r9

def Ly_beginAll_L34 (n : Nat) (b2 : Nat) (p1 : Nat) (x4 : Int32) : Nat → Int32 → Int32 → Mem → Option (Int32 × Mem)
| 0, _, _, _ => none
| k7 + 1, x8, x9, g10 =>
if (gI g10 0 b2 1) ≤ x9 then (
some (x8, g10))
else (
(ix x9 200).bind fun j11 =>
(gR g10 27 0 j11).bind fun o12 =>
(if o12 < 400 then (
(Ly_begins n o12 x4 g10).bind fun z13 =>
if z13.1 = 0 then (
Ly_beginAll_L34 n b2 p1 x4 k7 x8 (x9 + 1) z13.2)
else (
(ix x9 200).bind fun j14 =>
(gR z13.2 27 0 j14).bind fun o15 =>
(if o15 < 400 then (
(Op_end n o15 z13.2).bind fun z16 =>
lt9 (sI z13.2 0 b2 6 (imax (gI z13.2 0 b2 6) z16)) fun g17 =>
(ix x9 200).bind fun j18 =>
(gR g17 27 0 j18).bind fun o19 =>
(if o19 < 400 then (
(Ly_tellThoseBehind n p1 b2 o19 g17).bind fun g20 =>
Ly_beginAll_L34 n b2 p1 x4 k7 (x8 + 1) (x9 + 1) g20)
else none))
else none)))
else none))
def Ly_beginAll_L10 (n : Nat) (b2 : Nat) (p1 : Nat) : Nat → Int32 → Int32 → Mem → Option (Mem)
| 0, _, _, _ => none
| k2 + 1, x3, x4, g5 =>
if (800 : Int32) ≤ x4 then (
some g5)
else (
if (gI g5 0 b2 1) ≤ x3 then (
some g5)
else (
lt9 (sI g5 1 0 5 (0 : Int32)) fun g6 =>
(Ly_beginAll_L34 n b2 p1 x4 n x3 (0 : Int32) g6).bind fun r21 =>
Ly_beginAll_L10 n b2 p1 k2 r21.1 (x4 + 1) r21.2))
def Ly_beginAll (n : Nat) (p1 : Nat) (b2 : Nat) (g : Mem) : Option (Mem) :=
lt9 (sI g 0 b2 6 (1 : Int32)) fun g1 =>
(Ly_beginAll_L10 n b2 p1 n (0 : Int32) (0 : Int32) g1).bind fun r22 =>
some r22

def Ly_freeRegister_L9 (n : Nat) (a1 : Int32) (g : Mem) : Nat → Int32 → Option ((Int32) ⊕ (Unit))
| 0, _ => none
| k1 + 1, x2 =>
if (200 : Int32) ≤ x2 then (
some (.inr ()))
else (
(ix x2 200).bind fun j3 =>
if a1 ≤ (gI g 26 0 j3) then (
Ly_freeRegister_L9 n a1 g k1 (x2 + 1))
else (
some (.inl x2)))
def Ly_freeRegister (n : Nat) (a1 : Int32) (a2 : Int32) (g : Mem) : Option (Int32 × Mem) :=
if a1 ≤ a2 then (
(Ly_freeRegister_L9 n a1 g n (0 : Int32)).bind fun r4 =>
match r4 with
| .inl t5 => (
(ix t5 200).bind fun j6 =>
lt9 (sI g 26 0 j6 a2) fun g7 =>
some (t5, g7))
| .inr t8 => (
some ((-1 : Int32), g))
)
else (
some ((0 : Int32), g))

def Op_fillsRegister (n : Nat) (o0 : Nat) (g : Mem) : Option (Int32) :=
if (gI g 3 o0 5) = (-1 : Int32) then (
if (gI g 3 o0 1) = (2 : Int32) then (
some (0 : Int32))
else (
some (1 : Int32)))
else (
some (0 : Int32))

def Ly_bindRegisters_L16 (n : Nat) (b2 : Nat) (p1 : Nat) (x2 : Int32) : Nat → Int32 → Mem → Option (Mem)
| 0, _, _ => none
| k4 + 1, x5, g6 =>
if ((gI g6 0 b2 0) + (gI g6 0 b2 1)) ≤ x5 then (
some g6)
else (
(ix x5 200).bind fun j7 =>
(Op_end n (200 * p1 + j7) g6).bind fun z8 =>
if z8 = x2 then (
(Op_fillsRegister n (200 * p1 + j7) g6).bind fun z9 =>
if z9 = 0 then (
Ly_bindRegisters_L16 n b2 p1 x2 k4 (x5 + 1) g6)
else (
(Ly_freeRegister n x2 (gI g6 3 (200 * p1 + j7) 14) g6).bind fun z10 =>
lt9 (sI z10.2 3 (200 * p1 + j7) 11 z10.1) fun g11 =>
Ly_bindRegisters_L16 n b2 p1 x2 k4 (x5 + 1) g11))
else (
Ly_bindRegisters_L16 n b2 p1 x2 k4 (x5 + 1) g6))
def Ly_bindRegisters_L2 (n : Nat) (b2 : Nat) (p1 : Nat) : Nat → Int32 → Mem → Option (Mem)
| 0, _, _ => none
| k1 + 1, x2, g3 =>
if (gI g3 0 b2 6) < x2 then (
some g3)
else (
(Ly_bindRegisters_L16 n b2 p1 x2 n (gI g3 0 b2 0) g3).bind fun r12 =>
Ly_bindRegisters_L2 n b2 p1 k1 (x2 + 1) r12)
def Ly_bindRegisters (n : Nat) (p1 : Nat) (b2 : Nat) (g : Mem) : Option (Mem) :=
(Ly_bindRegisters_L2 n b2 p1 n (1 : Int32) g).bind fun r13 =>
some r13

def Ly_measureHeights_L42 (n : Nat) (b2 : Nat) (g : Mem) (j4 : Nat) (p1 : Nat) : Nat → Int32 → Int32 → Mem → Option (Int32 × Mem)
| 0, _, _, _ => none
| k5 + 1, x6, x7, g8 =>
if ((gI g 0 b2 0) + (gI g 0 b2 1)) ≤ x7 then (
some (x6, g8))
else (
(ix x7 200).bind fun j9 =>
(Op_comesBehind n (200 * p1 + j9) (200 * p1 + j4) g8).bind fun z10 =>
if z10 = 0 then (
Ly_measureHeights_L42 n b2 g j4 p1 k5 x6 (x7 + 1) g8)
else (
lt9 (sI g8 3 (200 * p1 + j9) 12 ((gI g8 3 (200 * p1 + j9) 12) + (1 : Int32))) fun g11 =>
Ly_measureHeights_L42 n b2 g j4 p1 k5 (imax x6 (gI g8 3 (200 * p1 + j9) 8)) (x7 + 1) g11))
def Ly_measureHeights_L15 (n : Nat) (b2 : Nat) (g : Mem) (p1 : Nat) : Nat → Int32 → Mem → Option (Mem)
| 0, _, _ => none
| k1 + 1, x2, g3 =>
if x2 < (gI g3 0 b2 0) then (
some g3)
else (
(ix x2 200).bind fun j4 =>
(Ly_measureHeights_L42 n b2 g j4 p1 n (0 : Int32) (x2 + (1 : Int32)) g3).bind fun r12 =>
lt9 (sI r12.2 3 (200 * p1 + j4) 8 ((gI r12.2 3 (200 * p1 + j4) 7) + r12.1)) fun g13 =>
Ly_measureHeights_L15 n b2 g p1 k1 (x2 + (-1)) g13)
def Ly_measureHeights (n : Nat) (p1 : Nat) (b2 : Nat) (g : Mem) : Option (Mem) :=
(Ly_measureHeights_L15 n b2 g p1 n (((gI g 0 b2 0) + (gI g 0 b2 1)) - (1 : Int32)) g).bind fun r14 =>
some r14

def Od_isValue (n : Nat) (a1 : Int32) : Option (Int32) :=
if (-9 : Int32) < a1 then (
some (0 : Int32))
else (
if a1 ≤ (-209 : Int32) then (
some (0 : Int32))
else (
some (1 : Int32)))

def Od_operationOf (n : Nat) (a1 : Int32) : Option (Int32) :=
some ((-9 : Int32) - a1)

def Ly_noteUse (n : Nat) (p1 : Nat) (a2 : Int32) (a3 : Int32) (g : Mem) : Option (Mem) :=
(Od_isValue n a2).bind fun z1 =>
if z1 = 0 then (
some g)
else (
(Od_operationOf n a2).bind fun z2 =>
(ix z2 200).bind fun j3 =>
lt9 (sI g 3 (200 * p1 + j3) 14 (imax (gI g 3 (200 * p1 + j3) 14) a3)) fun g4 =>
some g4)

def Ly_noteUses_L5 (n : Nat) (b2 : Nat) (p1 : Nat) : Nat → Int32 → Mem → Option (Mem)
| 0, _, _ => none
| k1 + 1, x2, g3 =>
if ((gI g3 0 b2 0) + (gI g3 0 b2 1)) ≤ x2 then (
some g3)
else (
(ix x2 200).bind fun j4 =>
(Ly_noteUse n p1 (gI g3 3 (200 * p1 + j4) 3) (gI g3 3 (200 * p1 + j4) 9) g3).bind fun g5 =>
(Ly_noteUse n p1 (gI g5 3 (200 * p1 + j4) 4) (gI g5 3 (200 * p1 + j4) 9) g5).bind fun g6 =>
Ly_noteUses_L5 n b2 p1 k1 (x2 + 1) g6)
def Ly_noteUses (n : Nat) (p1 : Nat) (b2 : Nat) (g : Mem) : Option (Mem) :=
(Ly_noteUses_L5 n b2 p1 n (gI g 0 b2 0) g).bind fun r7 =>
if (gI r7 0 b2 2) = 0 then (
some r7)
else (
(Ly_noteUse n p1 (gI r7 0 b2 3) ((gI r7 0 b2 6) - (1 : Int32)) r7).bind fun g8 =>
some g8)

def Ly_prepare_L5 (n : Nat) (b2 : Nat) (p1 : Nat) : Nat → Int32 → Mem → Option (Mem)
| 0, _, _ => none
| k1 + 1, x2, g3 =>
if ((gI g3 0 b2 0) + (gI g3 0 b2 1)) ≤ x2 then (
some g3)
else (
(ix x2 200).bind fun j4 =>
(ix (gI g3 3 (200 * p1 + j4) 2) 4).bind fun j5 =>
lt9 (sI g3 3 (200 * p1 + j4) 7 (gI g3 24 0 j5)) fun g6 =>
lt9 (sI g6 3 (200 * p1 + j4) 9 (-1 : Int32)) fun g7 =>
lt9 (sI g7 3 (200 * p1 + j4) 11 (-1 : Int32)) fun g8 =>
lt9 (sI g8 3 (200 * p1 + j4) 12 (0 : Int32)) fun g9 =>
lt9 (sI g9 3 (200 * p1 + j4) 13 (0 : Int32)) fun g10 =>
lt9 (sI g10 3 (200 * p1 + j4) 14 (-1 : Int32)) fun g11 =>
Ly_prepare_L5 n b2 p1 k1 (x2 + 1) g11)
def Ly_prepare_L79 (n : Nat) : Nat → Int32 → Mem → Option (Mem)
| 0, _, _ => none
| k13 + 1, x14, g15 =>
if (12 : Int32) ≤ x14 then (
some g15)
else (
(ix x14 12).bind fun j16 =>
lt9 (sI g15 25 0 j16 (0 : Int32)) fun g17 =>
Ly_prepare_L79 n k13 (x14 + 1) g17)
def Ly_prepare_L100 (n : Nat) : Nat → Int32 → Mem → Option (Mem)
| 0, _, _ => none
| k19 + 1, x20, g21 =>
if (200 : Int32) ≤ x20 then (
some g21)
else (
(ix x20 200).bind fun j22 =>
lt9 (sI g21 26 0 j22 (-1 : Int32)) fun g23 =>
Ly_prepare_L100 n k19 (x20 + 1) g23)
def Ly_prepare (n : Nat) (p1 : Nat) (b2 : Nat) (g : Mem) : Option (Mem) :=
(Ly_prepare_L5 n b2 p1 n (gI g 0 b2 0) g).bind fun r12 =>
(Ly_prepare_L79 n n (0 : Int32) r12).bind fun r18 =>
(Ly_prepare_L100 n n (0 : Int32) r18).bind fun r24 =>
some r24

def Ly_rank_L26 (n : Nat) (j4 : Nat) (p1 : Nat) : Nat → Int32 → Mem → Option (Int32 × Mem)
| 0, _, _ => none
| k5 + 1, x6, g7 =>
if x6 ≤ 0 then (
some (x6, g7))
else (
(ix (x6 - (1 : Int32)) 200).bind fun j8 =>
(gR g7 27 0 j8).bind fun o9 =>
(if o9 < 400 then (
if (gI g7 3 (200 * p1 + j4) 8) ≤ (gI g7 3 o9 8) then (
some (x6, g7))
else (
(ix (x6 - (1 : Int32)) 200).bind fun j10 =>
(gR g7 27 0 j10).bind fun o11 =>
(if o11 < 400 then (
(ix x6 200).bind fun j12 =>
lt9 (sR g7 27 0 j12 (some o11)) fun g13 =>
Ly_rank_L26 n j4 p1 k5 (x6 + (-1)) g13)
else none)))
else none))
def Ly_rank_L2 (n : Nat) (b2 : Nat) (p1 : Nat) : Nat → Int32 → Mem → Option (Mem)
| 0, _, _ => none
| k1 + 1, x2, g3 =>
if (gI g3 0 b2 1) ≤ x2 then (
some g3)
else (
(ix ((gI g3 0 b2 0) + x2) 200).bind fun j4 =>
(Ly_rank_L26 n j4 p1 n x2 g3).bind fun r14 =>
(ix r14.1 200).bind fun j15 =>
lt9 (sR r14.2 27 0 j15 (some (200 * p1 + j4))) fun g16 =>
Ly_rank_L2 n b2 p1 k1 (x2 + 1) g16)
def Ly_rank (n : Nat) (p1 : Nat) (b2 : Nat) (g : Mem) : Option (Mem) :=
(Ly_rank_L2 n b2 p1 n (0 : Int32) g).bind fun r17 =>
some r17

def Ly_lay_L2 (n : Nat) (p1 : Nat) : Nat → Int32 → Mem → Option (Mem)
| 0, _, _ => none
| k1 + 1, x2, g3 =>
if (gI g3 4 p1 3) ≤ x2 then (
some g3)
else (
(ix x2 175).bind fun j4 =>
(Ly_prepare n p1 (175 * p1 + j4) g3).bind fun g5 =>
(Ly_measureHeights n p1 (175 * p1 + j4) g5).bind fun g6 =>
(Ly_rank n p1 (175 * p1 + j4) g6).bind fun g7 =>
(Ly_beginAll n p1 (175 * p1 + j4) g7).bind fun g8 =>
(Ly_noteUses n p1 (175 * p1 + j4) g8).bind fun g9 =>
(Ly_bindRegisters n p1 (175 * p1 + j4) g9).bind fun g10 =>
Ly_lay_L2 n p1 k1 (x2 + 1) g10)
def Ly_lay (n : Nat) (p1 : Nat) (g : Mem) : Option (Mem) :=
(Ly_lay_L2 n p1 n (0 : Int32) g).bind fun r11 =>
some r11

def Mc_begin (n : Nat) (p1 : Nat) (g : Mem) : Option (Mem) :=
lt9 (sR g 2 0 3 (some p1)) fun g1 =>
if (gI g1 4 p1 3) ≤ 0 then (
lt9 (sI g1 2 0 4 (-1 : Int32)) fun g2 =>
lt9 (sL g2 2 0 (0 : Int64)) fun g3 =>
some g3)
else (
lt9 (sI g1 2 0 4 (0 : Int32)) fun g4 =>
lt9 (sL g4 2 0 (0 : Int64)) fun g5 =>
some g5)

def Od_isNumber (n : Nat) (a1 : Int32) : Option (Int32) :=
if a1 < 0 then (
some (0 : Int32))
else (
some (1 : Int32))

def Od_variableOf (n : Nat) (a1 : Int32) : Option (Int32) :=
some ((-1 : Int32) - a1)

def Mc_taken (n : Nat) (a1 : Int32) (g : Mem) : Option (Int32) :=
(Od_isNumber n a1).bind fun z1 =>
if z1 = 0 then (
(Od_isValue n a1).bind fun z2 =>
if z2 = 0 then (
(Od_variableOf n a1).bind fun z3 =>
(ix z3 8).bind fun j4 =>
some (gI g 28 0 j4))
else (
(Od_operationOf n a1).bind fun z5 =>
(ix z5 200).bind fun j6 =>
some (gI g 30 0 j6)))
else (
some a1)

def Mc_outcome (n : Nat) (o1 : Nat) (g : Mem) : Option (Int32 × Mem) :=
(Mc_taken n (gI g 3 o1 3) g).bind fun z1 =>
(Mc_taken n (gI g 3 o1 4) g).bind fun z2 =>
if gI g 3 o1 1 = 1 then (
(ix (z1 &&& (15 : Int32)) 16).bind fun j3 =>
some (gI g 29 0 j3, g))
else (
if gI g 3 o1 1 = 2 then (
(ix (z1 &&& (15 : Int32)) 16).bind fun j4 =>
lt9 (sI g 29 0 j4 z2) fun g5 =>
some (z2, g5))
else (
if gI g 3 o1 1 = 42 then (
some (z1 * z2, g))
else (
if gI g 3 o1 1 = 43 then (
some (z1 + z2, g))
else (
if gI g 3 o1 1 = 45 then (
some (z1 - z2, g))
else (
if gI g 3 o1 1 = 60 then (
if z2 ≤ z1 then (
some ((0 : Int32), g))
else (
some ((1 : Int32), g)))
else (
if gI g 3 o1 1 = 61 then (
if z1 = z2 then (
some ((1 : Int32), g))
else (
some ((0 : Int32), g)))
else (
some (z1, g))))))))

def Mc_perform_L5 (n : Nat) (b1 : Nat) : Nat → Int32 → Mem → Option (Mem)
| 0, _, _ => none
| k1 + 1, x2, g3 =>
if ((gI g3 0 b1 0) + (gI g3 0 b1 1)) ≤ x2 then (
some g3)
else (
(gR g3 2 0 3).bind fun p4 =>
(if p4 < 2 then (
(ix x2 200).bind fun j5 =>
(Mc_outcome n (200 * p4 + j5) g3).bind fun z6 =>
(ix x2 200).bind fun j7 =>
lt9 (sI z6.2 30 0 j7 z6.1) fun g8 =>
if (gI g8 3 (200 * p4 + j5) 5) = (-1 : Int32) then (
Mc_perform_L5 n b1 k1 (x2 + 1) g8)
else (
(ix x2 200).bind fun j9 =>
(ix (gI g8 3 (200 * p4 + j5) 5) 8).bind fun j10 =>
lt9 (sI g8 28 0 j10 (gI g8 30 0 j9)) fun g11 =>
Mc_perform_L5 n b1 k1 (x2 + 1) g11))
else none))
def Mc_perform (n : Nat) (b1 : Nat) (g : Mem) : Option (Mem) :=
(Mc_perform_L5 n b1 n (gI g 0 b1 0) g).bind fun r12 =>
lt9 (fun (v16 : Int32) =>
if v16 = 0 then (
lt9 (sI r12 2 0 4 (gI r12 0 b1 5)) fun g17 =>
some g17)
else (
lt9 (sI r12 2 0 4 (gI r12 0 b1 4)) fun g18 =>
some g18)) fun j14 =>
lt9 (fun (_u : Unit) =>
j14 (1 : Int32)) fun j13 =>
if (gI r12 0 b1 2) = 0 then (
j13 ())
else (
(Mc_taken n (gI r12 0 b1 3) r12).bind fun z15 =>
if z15 = 0 then (
j14 (0 : Int32))
else (
j13 ()))

def Mc_advance_L4 (n : Nat) (a1 : Int32) : Nat → Int32 → Int32 → Mem → Option (Int32 × Mem)
| 0, _, _, _ => none
| k1 + 1, x2, x3, g4 =>
if a1 ≤ x3 then (
some (x2, g4))
else (
if a1 ≤ x2 then (
some (x2, g4))
else (
if (gI g4 2 0 4) = (-1 : Int32) then (
some (x2, g4))
else (
(gR g4 2 0 3).bind fun p5 =>
(if p5 < 2 then (
(ix (gI g4 2 0 4) 175).bind fun j6 =>
(Mc_perform n (175 * p5 + j6) g4).bind fun g7 =>
Mc_advance_L4 n a1 k1 (x2 + (gI g7 0 (175 * p5 + j6) 6)) (x3 + 1) g7)
else none))))
def Mc_advance (n : Nat) (a1 : Int32) (g : Mem) : Option (Int32 × Mem) :=
(Mc_advance_L4 n a1 n (0 : Int32) (0 : Int32) g).bind fun r8 =>
lt9 (sL r8.2 2 0 ((gL r8.2 2 0) + r8.1.toInt64)) fun g9 =>
some (r8.1, g9)

def Op_kindOf (n : Nat) (a1 : Int32) : Option (Int32) :=
if a1 = 1 then (
some (2 : Int32))
else (
if a1 = 2 then (
some (2 : Int32))
else (
if a1 = 3 then (
some (3 : Int32))
else (
if a1 = 42 then (
some (1 : Int32))
else (
some (0 : Int32)))))

def Op_become (n : Nat) (o0 : Nat) (a1 : Int32) (a2 : Int32) (a3 : Int32) (g : Mem) : Option (Mem) :=
lt9 (sI g 3 o0 1 a1) fun g1 =>
lt9 (sI g1 3 o0 3 a2) fun g2 =>
lt9 (sI g2 3 o0 4 a3) fun g3 =>
(Op_kindOf n a1).bind fun z4 =>
lt9 (sI g3 3 o0 2 z4) fun g5 =>
lt9 (sI g5 3 o0 5 (-1 : Int32)) fun g6 =>
some g6

def Pg_clear (n : Nat) (p0 : Nat) (g : Mem) : Option (Mem) :=
lt9 (sI g 4 p0 2 (0 : Int32)) fun g1 =>
lt9 (sI g1 4 p0 3 (0 : Int32)) fun g2 =>
some g2

def Pg_isFull (n : Nat) (p0 : Nat) (g : Mem) : Option (Int32) :=
if (gI g 4 p0 2) = (200 : Int32) then (
some (1 : Int32))
else (
some (0 : Int32))

def Pg_addBlock (n : Nat) (p0 : Nat) (g : Mem) : Option (Nat × Mem) :=
(ix (gI g 4 p0 3) 175).bind fun j1 =>
(Bk_become n (175 * p0 + j1) (gI g 4 p0 2) g).bind fun g2 =>
lt9 (sI g2 4 p0 3 ((gI g2 4 p0 3) + (1 : Int32))) fun g3 =>
some (175 * p0 + j1, g3)

def Pg_addOperation (n : Nat) (p0 : Nat) (a1 : Int32) (a2 : Int32) (a3 : Int32) (g : Mem) : Option (Nat × Mem) :=
(ix (gI g 4 p0 2) 200).bind fun j1 =>
(Op_become n (200 * p0 + j1) a1 a2 a3 g).bind fun g2 =>
lt9 (sI g2 3 (200 * p0 + j1) 6 ((gI g2 4 p0 3) - (1 : Int32))) fun g3 =>
(ix ((gI g3 4 p0 3) - (1 : Int32)) 175).bind fun j4 =>
lt9 (sI g3 0 (175 * p0 + j4) 1 ((gI g3 0 (175 * p0 + j4) 1) + (1 : Int32))) fun g5 =>
lt9 (sI g5 4 p0 2 ((gI g5 4 p0 2) + (1 : Int32))) fun g6 =>
some (200 * p0 + j1, g6)

def Pg_allCycles_L4 (n : Nat) (g : Mem) (p0 : Nat) : Nat → Int32 → Int32 → Option (Int32)
| 0, _, _ => none
| k1 + 1, x2, x3 =>
if (gI g 4 p0 3) ≤ x3 then (
some x2)
else (
(ix x3 175).bind fun j4 =>
Pg_allCycles_L4 n g p0 k1 (x2 + (gI g 0 (175 * p0 + j4) 6)) (x3 + 1))
def Pg_allCycles (n : Nat) (p0 : Nat) (g : Mem) : Option (Int32) :=
(Pg_allCycles_L4 n g p0 n (0 : Int32) (0 : Int32)).bind fun r5 =>
some r5

def Pg_usedRegisters_L4 (n : Nat) (g : Mem) (p0 : Nat) : Nat → Int32 → Int32 → Option (Int32)
| 0, _, _ => none
| k1 + 1, x2, x3 =>
if (gI g 4 p0 2) ≤ x3 then (
some x2)
else (
(ix x3 200).bind fun j4 =>
Pg_usedRegisters_L4 n g p0 k1 (imax x2 (gI g 3 (200 * p0 + j4) 11)) (x3 + 1))
def Pg_usedRegisters (n : Nat) (p0 : Nat) (g : Mem) : Option (Int32) :=
(Pg_usedRegisters_L4 n g p0 n (-1 : Int32) (0 : Int32)).bind fun r5 =>
some (r5 + (1 : Int32))

def Pg_usedUnits_L4 (n : Nat) (a1 : Int32) (g : Mem) (p0 : Nat) : Nat → Int32 → Int32 → Option (Int32)
| 0, _, _ => none
| k1 + 1, x2, x3 =>
if (gI g 4 p0 2) ≤ x3 then (
some x2)
else (
(ix x3 200).bind fun j4 =>
if (gI g 3 (200 * p0 + j4) 2) = a1 then (
(ix x3 200).bind fun j5 =>
Pg_usedUnits_L4 n a1 g p0 k1 (imax x2 (gI g 3 (200 * p0 + j5) 10)) (x3 + 1))
else (
Pg_usedUnits_L4 n a1 g p0 k1 x2 (x3 + 1)))
def Pg_usedUnits (n : Nat) (p0 : Nat) (a1 : Int32) (g : Mem) : Option (Int32) :=
(Pg_usedUnits_L4 n a1 g p0 n (-1 : Int32) (0 : Int32)).bind fun r6 =>
some (r6 + (1 : Int32))

def Rd_rewind (n : Nat) (g : Mem) : Option (Mem) :=
lt9 (sI g 5 0 1 (0 : Int32)) fun g1 =>
some g1

def Rd_look_L0 (n : Nat) : Nat → Mem → Option ((Mem) ⊕ (Mem))
| 0, _ => none
| k1 + 1, g2 =>
if (gI g2 6 0 1) ≤ (gI g2 5 0 1) then (
some (.inr g2))
else (
(ix (gI g2 5 0 1) 700).bind fun j3 =>
if (gI g2 20 0 j3) ≤ (32 : Int32) then (
lt9 (sI g2 5 0 1 ((gI g2 5 0 1) + (1 : Int32))) fun g4 =>
Rd_look_L0 n k1 g4)
else (
some (.inl g2)))
def Rd_look (n : Nat) (g : Mem) : Option (Int32 × Mem) :=
(Rd_look_L0 n n g).bind fun r5 =>
match r5 with
| .inl t6 => (
(ix (gI t6 5 0 1) 700).bind fun j7 =>
some (gI t6 20 0 j7, t6))
| .inr t8 => (
some ((-1 : Int32), t8))


def Rd_pass (n : Nat) (a1 : Int32) (g : Mem) : Option (Mem) :=
lt9 (sI g 5 0 1 ((gI g 5 0 1) + a1)) fun g1 =>
some g1

def Rd_isLetter (n : Nat) (a1 : Int32) : Option (Int32) :=
if a1 < (97 : Int32) then (
some (0 : Int32))
else (
if (122 : Int32) < a1 then (
some (0 : Int32))
else (
some (1 : Int32)))

def Rd_lettersHere_L5 (n : Nat) (g : Mem) : Nat → Int32 → Option (Int32)
| 0, _ => none
| k1 + 1, x2 =>
if (gI g 6 0 1) ≤ x2 then (
some x2)
else (
(ix x2 700).bind fun j3 =>
(Rd_isLetter n (gI g 20 0 j3)).bind fun z4 =>
if z4 = 0 then (
some x2)
else (
Rd_lettersHere_L5 n g k1 (x2 + 1)))
def Rd_lettersHere (n : Nat) (g : Mem) : Option (Int32) :=
(Rd_lettersHere_L5 n g n (gI g 5 0 1)).bind fun r5 =>
some (r5 - (gI g 5 0 1))

def Rd_seesWord_L20 (n : Nat) (w1 : Nat) (z1 : Int32 × Mem) : Nat → Int32 → Option ((Unit) ⊕ (Unit))
| 0, _ => none
| k3 + 1, x4 =>
if (nI (lenS.getD w1 0)) ≤ x4 then (
some (.inr ()))
else (
(ix ((gI z1.2 5 0 1) + x4) 700).bind fun j5 =>
(ix x4 (lenS.getD w1 0)).bind fun j6 =>
if (gI z1.2 20 0 j5) = ((bytS.getD w1 []).getD j6 0) then (
Rd_seesWord_L20 n w1 z1 k3 (x4 + 1))
else (
some (.inl ())))
def Rd_seesWord (n : Nat) (w1 : Nat) (g : Mem) : Option (Int32 × Mem) :=
(Rd_look n g).bind fun z1 =>
(Rd_lettersHere n z1.2).bind fun z2 =>
if z2 = (nI (lenS.getD w1 0)) then (
(Rd_seesWord_L20 n w1 z1 n (0 : Int32)).bind fun r7 =>
match r7 with
| .inl t8 => (
some ((0 : Int32), z1.2))
| .inr t9 => (
some ((1 : Int32), z1.2))
)
else (
some ((0 : Int32), z1.2))

def Rd_seenVariable (n : Nat) (g : Mem) : Option (Int32 × Mem) :=
(Rd_look n g).bind fun z1 =>
lt9 (fun (v5 : Int32) =>
if v5 = 0 then (
some ((-1 : Int32), z1.2))
else (
some (z1.1 - (97 : Int32), z1.2))) fun j3 =>
lt9 (fun (_u : Unit) =>
j3 (0 : Int32)) fun j2 =>
if (z1.1 - (97 : Int32)) < 0 then (
j2 ())
else (
if (8 : Int32) ≤ (z1.1 - (97 : Int32)) then (
j2 ())
else (
(Rd_lettersHere n z1.2).bind fun z4 =>
if z4 = (1 : Int32) then (
j3 (1 : Int32))
else (
j2 ())))

def Rd_isFigure (n : Nat) (a1 : Int32) : Option (Int32) :=
if a1 < (48 : Int32) then (
some (0 : Int32))
else (
if (57 : Int32) < a1 then (
some (0 : Int32))
else (
some (1 : Int32)))

def Rd_seesFigure (n : Nat) (g : Mem) : Option (Int32 × Mem) :=
(Rd_look n g).bind fun z1 =>
(Rd_isFigure n z1.1).bind fun z2 =>
(if z2 = 0 ∨ z2 = 1 then (
some (z2, z1.2))
else none)
def Rd_seesLetter (n : Nat) (g : Mem) : Option (Int32 × Mem) :=
(Rd_look n g).bind fun z1 =>
(Rd_isLetter n z1.1).bind fun z2 =>
(if z2 = 0 ∨ z2 = 1 then (
some (z2, z1.2))
else none)
def Rd_readNumber_L2 (n : Nat) : Nat → Int64 → Mem → Option (Int64 × Mem)
| 0, _, _ => none
| k1 + 1, x2, g3 =>
if (gI g3 6 0 1) ≤ (gI g3 5 0 1) then (
some (x2, g3))
else (
(ix (gI g3 5 0 1) 700).bind fun j4 =>
(Rd_isFigure n (gI g3 20 0 j4)).bind fun z5 =>
if z5 = 0 then (
some (x2, g3))
else (
(ix (gI g3 5 0 1) 700).bind fun j6 =>
lt9 (sI g3 5 0 1 ((gI g3 5 0 1) + (1 : Int32))) fun g7 =>
Rd_readNumber_L2 n k1 (lmin ((((10 : Int64) * x2) + ((gI g3 20 0 j6).toInt64)) - (48 : Int64)) (2147483648 : Int64)) g7))
def Rd_readNumber (n : Nat) (g : Mem) : Option (Int64 × Mem) :=
(Rd_readNumber_L2 n n (0 : Int64) g).bind fun r8 =>
some (r8.1, r8.2)

def Tp_append_L17 (n : Nat) (a1 : Int32) (a2 : Int64) : Nat → Int32 → Mem → Option (Mem)
| 0, _, _ => none
| k1 + 1, x2, g3 =>
if a1 ≤ x2 then (
some g3)
else (
(ix ((gI g3 6 0 1) + x2) 700).bind fun j4 =>
lt9 (sI g3 20 0 j4 (((a2 >>> (((8 : Int32) * x2).toInt64 &&& 63)).toInt32) &&& (255 : Int32))) fun g5 =>
Tp_append_L17 n a1 a2 k1 (x2 + 1) g5)
def Tp_append (n : Nat) (a1 : Int32) (a2 : Int64) (g : Mem) : Option (Int32 × Mem) :=
if ((gI g 6 0 1) + a1) ≤ (700 : Int32) then (
(Tp_append_L17 n a1 a2 n (0 : Int32) g).bind fun r6 =>
lt9 (sI r6 6 0 1 ((gI r6 6 0 1) + a1)) fun g7 =>
some ((1 : Int32), g7))
else (
some ((0 : Int32), g))

def Tp_clear (n : Nat) (g : Mem) : Option (Int32 × Mem) :=
lt9 (sI g 6 0 1 (0 : Int32)) fun g1 =>
some (gI g 6 0 1, g1)

def Tr_refuse (n : Nat) (a1 : Int32) (a2 : Int32) (g : Mem) : Option (Int32 × Mem) :=
lt9 (sI g 7 0 5 a1) fun g1 =>
lt9 (sI g1 7 0 6 a2) fun g2 =>
some ((0 : Int32), g2)

def Tr_refuseHere (n : Nat) (a1 : Int32) (g : Mem) : Option (Int32 × Mem) :=
(Tr_refuse n a1 (gI g 5 0 1) g).bind fun z1 =>
(if z1.1 = 0 ∨ z1.1 = 1 then (
some (z1.1, z1.2))
else none)
def Tr_meets (n : Nat) (a1 : Int32) (g : Mem) : Option (Int32 × Mem) :=
(Rd_look n g).bind fun z1 =>
if z1.1 = a1 then (
some ((1 : Int32), z1.2))
else (
(Tr_refuseHere n (1 : Int32) z1.2).bind fun z2 =>
if z2.1 = 0 then (
some ((0 : Int32), z2.2))
else (
some ((1 : Int32), z2.2)))

def Tr_add (n : Nat) (a1 : Int32) (a2 : Int32) (a3 : Int32) (a4 : Int32) (g : Mem) : Option (Int32 × Mem) :=
if a3 = (-209 : Int32) then (
some (a3, g))
else (
(gR g 7 0 2).bind fun p1 =>
(if p1 < 2 then (
(Pg_isFull n p1 g).bind fun z2 =>
if z2 = 0 then (
(gR g 7 0 2).bind fun p3 =>
(if p3 < 2 then (
(Pg_addOperation n p3 a1 a2 a3 g).bind fun z4 =>
(if z4.1 < 400 then (
(Od_ofValue n (gI z4.2 3 z4.1 0)).bind fun z6 =>
some (z6, z4.2))
else none))
else none))
else (
(Tr_refuse n (3 : Int32) a4 g).bind fun z7 =>
some ((-209 : Int32), z7.2)))
else none))

def Tr_passes (n : Nat) (a1 : Int32) (g : Mem) : Option (Int32 × Mem) :=
(Tr_meets n a1 g).bind fun z1 =>
if z1.1 = 0 then (
some ((0 : Int32), z1.2))
else (
(Rd_pass n (1 : Int32) z1.2).bind fun g2 =>
some ((1 : Int32), g2))

def Tr_enclosed (rc : Mem → Option (Int32 × Mem)) (n : Nat) (a1 : Int32) (a2 : Int32) (g : Mem) : Option (Int32 × Mem) :=
(Tr_meets n a1 g).bind fun z1 =>
if z1.1 = 0 then (
some ((-209 : Int32), z1.2))
else (
if (gI z1.2 7 0 4) = (20 : Int32) then (
(Tr_refuseHere n (3 : Int32) z1.2).bind fun z7 =>
some ((-209 : Int32), z7.2))
else (
lt9 (sI z1.2 7 0 4 ((gI z1.2 7 0 4) + (1 : Int32))) fun g2 =>
(Rd_pass n (1 : Int32) g2).bind fun g3 =>
(rc g3).bind fun z4 =>
if z4.1 = (-209 : Int32) then (
some ((-209 : Int32), z4.2))
else (
(Tr_passes n a2 z4.2).bind fun z5 =>
if z5.1 = 0 then (
some ((-209 : Int32), z5.2))
else (
lt9 (sI z5.2 7 0 4 ((gI z5.2 7 0 4) - (1 : Int32))) fun g6 =>
some (z4.1, g6)))))

def Tr_number (n : Nat) (g : Mem) : Option (Int32 × Mem) :=
(Rd_readNumber n g).bind fun z1 =>
if (lg_cmp z1.1 (2147483647 : Int64)) ≤ 0 then (
some (z1.1.toInt32, z1.2))
else (
(Tr_refuse n (2 : Int32) (gI g 5 0 1) z1.2).bind fun z2 =>
some ((-209 : Int32), z2.2))

def Tr_read (rc : Mem → Option (Int32 × Mem)) (n : Nat) (g : Mem) : Option (Int32 × Mem) :=
(Rd_pass n (1 : Int32) g).bind fun g1 =>
(Tr_enclosed rc n (91 : Int32) (93 : Int32) g1).bind fun z2 =>
if z2.1 = (-209 : Int32) then (
some (z2.1, z2.2))
else (
(Tr_add n (1 : Int32) z2.1 (0 : Int32) (gI g 5 0 1) z2.2).bind fun z3 =>
some (z3.1, z3.2))

def Tr_factor (rc : Mem → Option (Int32 × Mem)) (n : Nat) (g : Mem) : Option (Int32 × Mem) :=
(Rd_look n g).bind fun z1 =>
if z1.1 = (40 : Int32) then (
(Tr_enclosed rc n (40 : Int32) (41 : Int32) z1.2).bind fun z10 =>
some (z10.1, z10.2))
else (
(Rd_seesFigure n z1.2).bind fun z2 =>
if z2.1 = 0 then (
(Rd_seesWord n 2 z2.2).bind fun z3 =>
if z3.1 = 0 then (
(Rd_seenVariable n z3.2).bind fun z4 =>
if z4.1 = (-1 : Int32) then (
(Tr_refuseHere n (1 : Int32) z4.2).bind fun z7 =>
some ((-209 : Int32), z7.2))
else (
(Rd_pass n (1 : Int32) z4.2).bind fun g5 =>
(Od_ofVariable n z4.1).bind fun z6 =>
some (z6, g5)))
else (
(Tr_read rc n z3.2).bind fun z8 =>
some (z8.1, z8.2)))
else (
(Tr_number n z2.2).bind fun z9 =>
some (z9.1, z9.2)))

def Tr_term_L7 (n : Nat) (rc : Mem → Option (Int32 × Mem)) : Nat → Int32 → Int32 → Mem → Option ((Int32 × Mem) ⊕ (Int32 × Mem))
| 0, _, _, _ => none
| k2 + 1, x3, x4, g5 =>
if (700 : Int32) ≤ x4 then (
some (.inr (x3, g5)))
else (
if x3 = (-209 : Int32) then (
some (.inr (x3, g5)))
else (
(Rd_look n g5).bind fun z6 =>
if z6.1 = (42 : Int32) then (
(Rd_pass n (1 : Int32) z6.2).bind fun g7 =>
(Tr_factor rc n g7).bind fun z8 =>
(Tr_add n (42 : Int32) x3 z8.1 (gI z6.2 5 0 1) z8.2).bind fun z9 =>
Tr_term_L7 n rc k2 z9.1 (x4 + 1) z9.2)
else (
some (.inl (x3, z6.2)))))
def Tr_term (rc : Mem → Option (Int32 × Mem)) (n : Nat) (g : Mem) : Option (Int32 × Mem) :=
(Tr_factor rc n g).bind fun z1 =>
(Tr_term_L7 n rc n z1.1 (0 : Int32) z1.2).bind fun r10 =>
match r10 with
| .inl t11 => (
some (t11.1, t11.2))
| .inr t12 => (
some (t12.1, t12.2))


def Tr_sum_L7 (n : Nat) (rc : Mem → Option (Int32 × Mem)) : Nat → Int32 → Int32 → Mem → Option ((Int32 × Mem) ⊕ (Int32 × Mem))
| 0, _, _, _ => none
| k2 + 1, x3, x4, g5 =>
if (700 : Int32) ≤ x4 then (
some (.inr (x3, g5)))
else (
if x3 = (-209 : Int32) then (
some (.inr (x3, g5)))
else (
(Rd_look n g5).bind fun z6 =>
lt9 (fun (_u : Unit) =>
(Rd_pass n (1 : Int32) z6.2).bind fun g8 =>
(Tr_term rc n g8).bind fun z9 =>
(Tr_add n z6.1 x3 z9.1 (gI z6.2 5 0 1) z9.2).bind fun z10 =>
Tr_sum_L7 n rc k2 z10.1 (x4 + 1) z10.2) fun j7 =>
if z6.1 = (43 : Int32) then (
j7 ())
else (
if z6.1 = (45 : Int32) then (
j7 ())
else (
some (.inl (x3, z6.2))))))
def Tr_sum (rc : Mem → Option (Int32 × Mem)) (n : Nat) (g : Mem) : Option (Int32 × Mem) :=
(Tr_term rc n g).bind fun z1 =>
(Tr_sum_L7 n rc n z1.1 (0 : Int32) z1.2).bind fun r11 =>
match r11 with
| .inl t12 => (
some (t12.1, t12.2))
| .inr t13 => (
some (t13.1, t13.2))


def Tr_expression_b (rc : Mem → Option (Int32 × Mem)) (n : Nat) (g : Mem) : Option (Int32 × Mem) :=
(Tr_sum rc n g).bind fun z1 =>
if z1.1 = (-209 : Int32) then (
some (z1.1, z1.2))
else (
(Rd_look n z1.2).bind fun z2 =>
lt9 (fun (_u : Unit) =>
(Rd_pass n (1 : Int32) z2.2).bind fun g4 =>
(Tr_sum rc n g4).bind fun z5 =>
(Tr_add n z2.1 z1.1 z5.1 (gI z2.2 5 0 1) z5.2).bind fun z6 =>
some (z6.1, z6.2)) fun j3 =>
if z2.1 = (60 : Int32) then (
j3 ())
else (
if z2.1 = (61 : Int32) then (
j3 ())
else (
some (z1.1, z2.2))))
def Tr_expression (n : Nat) : Nat → Mem → Option (Int32 × Mem)
| 0, _ => none
| d + 1, g => Tr_expression_b (Tr_expression n d) n g

def Wy_openBlock (n : Nat) (g : Mem) : Option (Mem) :=
if gR g 8 0 4 = none then (
(gR g 8 0 3).bind fun p1 =>
(if p1 < 2 then (
(ix (gI g 8 0 5) 350).bind fun j2 =>
lt9 (sI g 21 0 j2 (gI g 4 p1 3)) fun g3 =>
(gR g3 8 0 3).bind fun p4 =>
(if p4 < 2 then (
(Pg_addBlock n p4 g3).bind fun z5 =>
(if z5.1 < 350 then (
lt9 (sR z5.2 8 0 4 (some z5.1)) fun g7 =>
some g7)
else none))
else none))
else none))
else (
some g)

def Tr_assignment (n : Nat) (a1 : Int32) (g : Mem) : Option (Int32 × Mem) :=
(Rd_pass n (1 : Int32) g).bind fun g1 =>
(Wy_openBlock n g1).bind fun g2 =>
(Tr_passes n (61 : Int32) g2).bind fun z3 =>
if z3.1 = 0 then (
some ((0 : Int32), z3.2))
else (
(Tr_expression n 30 z3.2).bind fun z4 =>
if z4.1 = (-209 : Int32) then (
some ((0 : Int32), z4.2))
else (
(Tr_passes n (59 : Int32) z4.2).bind fun z5 =>
if z5.1 = 0 then (
some ((0 : Int32), z5.2))
else (
(Od_isValue n z4.1).bind fun z6 =>
lt9 (fun (x9 : Int32) (g10 : Mem) =>
if x9 = (-209 : Int32) then (
some ((0 : Int32), g10))
else (
(gR g10 7 0 2).bind fun p11 =>
(if p11 < 2 then (
(Od_operationOf n x9).bind fun z12 =>
(ix z12 200).bind fun j13 =>
lt9 (sI g10 3 (200 * p11 + j13) 5 a1) fun g14 =>
some ((1 : Int32), g14))
else none))) fun j7 =>
if z6 = 0 then (
(Tr_add n (3 : Int32) z4.1 (0 : Int32) (gI g 5 0 1) z5.2).bind fun z8 =>
j7 z8.1 z8.2)
else (
j7 z4.1 z5.2))))

def Wy_standAt (n : Nat) (a1 : Int32) (g : Mem) : Option (Mem) :=
lt9 (sI g 8 0 5 a1) fun g1 =>
lt9 (sR g1 8 0 4 none) fun g2 =>
some g2

def Tr_body (rc : Mem → Option (Int32 × Mem)) (n : Nat) (a1 : Int32) (g : Mem) : Option (Int32 × Mem) :=
(Tr_meets n (123 : Int32) g).bind fun z1 =>
if z1.1 = 0 then (
some ((0 : Int32), z1.2))
else (
if (gI z1.2 7 0 3) = (10 : Int32) then (
(Tr_refuseHere n (3 : Int32) z1.2).bind fun z8 =>
(if z8.1 = 0 ∨ z8.1 = 1 then (
some (z8.1, z8.2))
else none))
else (
lt9 (sI z1.2 7 0 3 ((gI z1.2 7 0 3) + (1 : Int32))) fun g2 =>
(Rd_pass n (1 : Int32) g2).bind fun g3 =>
(Wy_standAt n a1 g3).bind fun g4 =>
(rc g4).bind fun z5 =>
if z5.1 = 0 then (
some ((0 : Int32), z5.2))
else (
(Tr_passes n (125 : Int32) z5.2).bind fun z6 =>
if z6.1 = 0 then (
some ((0 : Int32), z6.2))
else (
lt9 (sI z6.2 7 0 3 ((gI z6.2 7 0 3) - (1 : Int32))) fun g7 =>
some ((1 : Int32), g7)))))

def Wy_choose (n : Nat) (a1 : Int32) (a2 : Int32) (a3 : Int32) (g : Mem) : Option (Mem) :=
if gR g 8 0 4 = none then (
some g)
else (
(gR g 8 0 4).bind fun b1 =>
(if b1 < 350 then (
lt9 (sI g 0 b1 2 (1 : Int32)) fun g2 =>
(gR g2 8 0 4).bind fun b3 =>
(if b3 < 350 then (
lt9 (sI g2 0 b3 3 a1) fun g4 =>
(gR g4 8 0 4).bind fun b5 =>
(if b5 < 350 then (
lt9 (sI g4 0 b5 4 a2) fun g6 =>
(gR g6 8 0 4).bind fun b7 =>
(if b7 < 350 then (
lt9 (sI g6 0 b7 5 a3) fun g8 =>
some g8)
else none))
else none))
else none))
else none))

def Tr_choice (n : Nat) (a1 : Int32) (a2 : Int32) (g : Mem) : Option (Int32 × Mem) :=
(Wy_openBlock n g).bind fun g1 =>
(Tr_expression n 30 g1).bind fun z2 =>
if z2.1 = (-209 : Int32) then (
some ((0 : Int32), z2.2))
else (
(Wy_choose n z2.1 a1 a2 z2.2).bind fun g3 =>
some ((1 : Int32), g3))

def Wy_addJoint (n : Nat) (g : Mem) : Option (Int32 × Mem) :=
(ix (gI g 8 0 2) 350).bind fun j1 =>
lt9 (sI g 21 0 j1 (-1 : Int32)) fun g2 =>
(ix (gI g 8 0 2) 350).bind fun j3 =>
lt9 (sI g2 22 0 j3 (-1 : Int32)) fun g4 =>
lt9 (sI g4 8 0 2 ((gI g4 8 0 2) + (1 : Int32))) fun g5 =>
some (gI g 8 0 2, g5)

def Wy_goTo (n : Nat) (a1 : Int32) (g : Mem) : Option (Mem) :=
if gR g 8 0 4 = none then (
(ix (gI g 8 0 5) 350).bind fun j3 =>
lt9 (sI g 22 0 j3 a1) fun g4 =>
some g4)
else (
(gR g 8 0 4).bind fun b1 =>
(if b1 < 350 then (
lt9 (sI g 0 b1 4 a1) fun g2 =>
some g2)
else none))

def Tr_ifStatement (rc : Mem → Option (Int32 × Mem)) (n : Nat) (g : Mem) : Option (Int32 × Mem) :=
(Rd_pass n (2 : Int32) g).bind fun g1 =>
(Wy_addJoint n g1).bind fun z2 =>
(Wy_addJoint n z2.2).bind fun z3 =>
(Tr_choice n z2.1 z3.1 z3.2).bind fun z4 =>
if z4.1 = 0 then (
some ((0 : Int32), z4.2))
else (
(Tr_body rc n z2.1 z4.2).bind fun z5 =>
if z5.1 = 0 then (
some ((0 : Int32), z5.2))
else (
(Rd_seesWord n 3 z5.2).bind fun z6 =>
if z6.1 = 0 then (
(Wy_goTo n z3.1 z6.2).bind fun g13 =>
(Wy_standAt n z3.1 g13).bind fun g14 =>
some ((1 : Int32), g14))
else (
(Rd_pass n (4 : Int32) z6.2).bind fun g7 =>
(Wy_addJoint n g7).bind fun z8 =>
(Wy_goTo n z8.1 z8.2).bind fun g9 =>
(Tr_body rc n z3.1 g9).bind fun z10 =>
if z10.1 = 0 then (
some ((0 : Int32), z10.2))
else (
(Wy_goTo n z8.1 z10.2).bind fun g11 =>
(Wy_standAt n z8.1 g11).bind fun g12 =>
some ((1 : Int32), g12)))))

def Tr_whileStatement (rc : Mem → Option (Int32 × Mem)) (n : Nat) (g : Mem) : Option (Int32 × Mem) :=
(Rd_pass n (5 : Int32) g).bind fun g1 =>
(Wy_addJoint n g1).bind fun z2 =>
(Wy_addJoint n z2.2).bind fun z3 =>
(Wy_addJoint n z3.2).bind fun z4 =>
(Wy_goTo n z2.1 z4.2).bind fun g5 =>
(Wy_standAt n z2.1 g5).bind fun g6 =>
(Tr_choice n z3.1 z4.1 g6).bind fun z7 =>
if z7.1 = 0 then (
some ((0 : Int32), z7.2))
else (
(Tr_body rc n z3.1 z7.2).bind fun z8 =>
if z8.1 = 0 then (
some ((0 : Int32), z8.2))
else (
(Wy_goTo n z2.1 z8.2).bind fun g9 =>
(Wy_standAt n z4.1 g9).bind fun g10 =>
some ((1 : Int32), g10)))

def Tr_write (n : Nat) (g : Mem) : Option (Int32 × Mem) :=
(Rd_pass n (1 : Int32) g).bind fun g1 =>
(Wy_openBlock n g1).bind fun g2 =>
(Tr_enclosed (Tr_expression n 30) n (91 : Int32) (93 : Int32) g2).bind fun z3 =>
if z3.1 = (-209 : Int32) then (
some ((0 : Int32), z3.2))
else (
(Tr_passes n (61 : Int32) z3.2).bind fun z4 =>
if z4.1 = 0 then (
some ((0 : Int32), z4.2))
else (
(Tr_expression n 30 z4.2).bind fun z5 =>
if z5.1 = (-209 : Int32) then (
some ((0 : Int32), z5.2))
else (
(Tr_passes n (59 : Int32) z5.2).bind fun z6 =>
if z6.1 = 0 then (
some ((0 : Int32), z6.2))
else (
(Tr_add n (2 : Int32) z3.1 z5.1 (gI g 5 0 1) z6.2).bind fun z7 =>
if z7.1 = (-209 : Int32) then (
some ((0 : Int32), z7.2))
else (
some ((1 : Int32), z7.2))))))

def Tr_statement (rc : Mem → Option (Int32 × Mem)) (n : Nat) (g : Mem) : Option (Int32 × Mem) :=
(Rd_seesWord n 0 g).bind fun z1 =>
if z1.1 = 0 then (
(Rd_seesWord n 1 z1.2).bind fun z2 =>
if z2.1 = 0 then (
(Rd_seesWord n 2 z2.2).bind fun z3 =>
if z3.1 = 0 then (
(Rd_seenVariable n z3.2).bind fun z4 =>
if z4.1 = (-1 : Int32) then (
(Tr_refuseHere n (1 : Int32) z4.2).bind fun z7 =>
(if z7.1 = 0 ∨ z7.1 = 1 then (
some (z7.1, z7.2))
else none))
else (
(Tr_assignment n z4.1 z4.2).bind fun z5 =>
(if z5.1 = 0 ∨ z5.1 = 1 then (
some (z5.1, z5.2))
else none)))
else (
(Tr_write n z3.2).bind fun z9 =>
(if z9.1 = 0 ∨ z9.1 = 1 then (
some (z9.1, z9.2))
else none)))
else (
(Tr_whileStatement rc n z2.2).bind fun z11 =>
(if z11.1 = 0 ∨ z11.1 = 1 then (
some (z11.1, z11.2))
else none)))
else (
(Tr_ifStatement rc n z1.2).bind fun z13 =>
(if z13.1 = 0 ∨ z13.1 = 1 then (
some (z13.1, z13.2))
else none))

def Tr_statements_L2 (n : Nat) (rc : Mem → Option (Int32 × Mem)) : Nat → Int32 → Mem → Option ((Mem) ⊕ (Mem))
| 0, _, _ => none
| k1 + 1, x2, g3 =>
if (700 : Int32) ≤ x2 then (
some (.inr g3))
else (
(Rd_seesLetter n g3).bind fun z4 =>
if z4.1 = 0 then (
some (.inr z4.2))
else (
(Tr_statement rc n z4.2).bind fun z5 =>
if z5.1 = 0 then (
some (.inl z5.2))
else (
Tr_statements_L2 n rc k1 (x2 + 1) z5.2)))
def Tr_statements_b (rc : Mem → Option (Int32 × Mem)) (n : Nat) (g : Mem) : Option (Int32 × Mem) :=
(Tr_statements_L2 n rc n (0 : Int32) g).bind fun r6 =>
match r6 with
| .inl t7 => (
some ((0 : Int32), t7))
| .inr t8 => (
some ((1 : Int32), t8))

def Tr_statements (n : Nat) : Nat → Mem → Option (Int32 × Mem)
| 0, _ => none
| d + 1, g => Tr_statements_b (Tr_statements n d) n g

def Wy_blockFrom_L4 (n : Nat) (g : Mem) : Nat → Int32 → Int32 → Option ((Int32) ⊕ (Unit))
| 0, _, _ => none
| k1 + 1, x2, x3 =>
if (gI g 8 0 2) ≤ x3 then (
some (.inr ()))
else (
if x2 = (-1 : Int32) then (
some (.inr ()))
else (
(ix x2 350).bind fun j4 =>
if (gI g 21 0 j4) = (-1 : Int32) then (
(ix x2 350).bind fun j5 =>
Wy_blockFrom_L4 n g k1 (gI g 22 0 j5) (x3 + 1))
else (
some (.inl x2))))
def Wy_blockFrom (n : Nat) (a1 : Int32) (g : Mem) : Option (Int32) :=
(Wy_blockFrom_L4 n g n a1 (0 : Int32)).bind fun r6 =>
match r6 with
| .inl t7 => (
(ix t7 350).bind fun j8 =>
some (gI g 21 0 j8))
| .inr t9 => (
some (-1 : Int32))


def Wy_settle_L2 (n : Nat) : Nat → Int32 → Mem → Option (Mem)
| 0, _, _ => none
| k1 + 1, x2, g3 =>
(gR g3 8 0 3).bind fun p4 =>
(if p4 < 2 then (
if (gI g3 4 p4 3) ≤ x2 then (
some g3)
else (
(gR g3 8 0 3).bind fun p5 =>
(if p5 < 2 then (
(ix x2 175).bind fun j6 =>
(Wy_blockFrom n (gI g3 0 (175 * p5 + j6) 4) g3).bind fun z7 =>
lt9 (sI g3 0 (175 * p5 + j6) 4 z7) fun g8 =>
(Wy_blockFrom n (gI g8 0 (175 * p5 + j6) 5) g8).bind fun z9 =>
lt9 (sI g8 0 (175 * p5 + j6) 5 z9) fun g10 =>
Wy_settle_L2 n k1 (x2 + 1) g10)
else none)))
else none)
def Wy_settle (n : Nat) (g : Mem) : Option (Mem) :=
(Wy_settle_L2 n n (0 : Int32) g).bind fun r11 =>
some r11

def Wy_start (n : Nat) (p1 : Nat) (g : Mem) : Option (Mem) :=
lt9 (sR g 8 0 3 (some p1)) fun g1 =>
lt9 (sI g1 8 0 2 (0 : Int32)) fun g2 =>
(Wy_addJoint n g2).bind fun z3 =>
(Wy_standAt n z3.1 z3.2).bind fun g4 =>
some g4

def Tr_translate (n : Nat) (p1 : Nat) (g : Mem) : Option (Int32 × Mem) :=
lt9 (sR g 7 0 2 (some p1)) fun g1 =>
(gR g1 7 0 2).bind fun p2 =>
(if p2 < 2 then (
(Pg_clear n p2 g1).bind fun g3 =>
(Rd_rewind n g3).bind fun g4 =>
(gR g4 7 0 2).bind fun p5 =>
(if p5 < 2 then (
(Wy_start n p5 g4).bind fun g6 =>
lt9 (sI g6 7 0 3 (0 : Int32)) fun g7 =>
lt9 (sI g7 7 0 4 (0 : Int32)) fun g8 =>
lt9 (sI g8 7 0 5 (0 : Int32)) fun g9 =>
lt9 (sI g9 7 0 6 (-1 : Int32)) fun g10 =>
(Tr_statements n 15 g10).bind fun z11 =>
if z11.1 = 0 then (
some ((0 : Int32), z11.2))
else (
(Tr_meets n (-1 : Int32) z11.2).bind fun z12 =>
if z12.1 = 0 then (
some ((0 : Int32), z12.2))
else (
(Wy_settle n z12.2).bind fun g13 =>
some ((1 : Int32), g13))))
else none))
else none)
def K_wipe (n : Nat) (g : Mem) : Option (Int32 × Mem) :=
(Tp_clear n g).bind fun z1 =>
some (z1.1, z1.2)

def K_compile (n : Nat) (g : Mem) : Option (Int32 × Mem) :=
(gR g 9 0 5).bind fun p1 =>
(if p1 < 2 then (
(Tr_translate n p1 g).bind fun z2 =>
if z2.1 = 0 then (
some ((-1 : Int32), z2.2))
else (
(gR z2.2 9 0 4).bind fun p3 =>
(if p3 < 2 then (
(gR z2.2 9 0 5).bind fun p4 =>
(if p4 < 2 then (
lt9 (sR z2.2 9 0 4 (some p4)) fun g5 =>
lt9 (sR g5 9 0 5 (some p3)) fun g6 =>
(gR g6 9 0 4).bind fun p7 =>
(if p7 < 2 then (
(Ly_lay n p7 g6).bind fun g8 =>
(gR g8 9 0 4).bind fun p9 =>
(if p9 < 2 then (
(Mc_begin n p9 g8).bind fun g10 =>
(gR g10 9 0 4).bind fun p11 =>
(if p11 < 2 then (
some (gI g10 4 p11 2, g10))
else none))
else none))
else none))
else none))
else none)))
else none)
def K_fault (n : Nat) (g : Mem) : Option (Int32) :=
some (gI g 7 0 5)

def K_place (n : Nat) (g : Mem) : Option (Int32) :=
some (gI g 7 0 6)

def K_restart (n : Nat) (g : Mem) : Option (Mem) :=
(gR g 9 0 4).bind fun p1 =>
(if p1 < 2 then (
(Mc_begin n p1 g).bind fun g2 =>
some g2)
else none)
def K_at (n : Nat) (g : Mem) : Option (Int32) :=
some (gI g 2 0 4)

def K_cycles (n : Nat) (g : Mem) : Option (Int64) :=
some (gL g 2 0)
end
section
/-! the reference: its methods as functions over the memory (printed by program from the bytecode) -/
def M_thrown (n : Nat) (g : Mem) : Option (Int32) :=
some (gI g 10 0 0)

def M_feed_L46 (n : Nat) (a1 : Int32) (a2 : Int64) : Nat → Int32 → Mem → Option (Mem)
| 0, _, _ => none
| k5 + 1, x6, g7 =>
if a1 ≤ x6 then (
some g7)
else (
(ix (gI g7 10 0 2) 700).bind fun j8 =>
lt9 (sI g7 101 0 j8 (((a2 >>> (((8 : Int32) * x6).toInt64 &&& 63)) &&& (255 : Int64)).toInt32)) fun g9 =>
lt9 (sI g9 10 0 2 ((gI g9 10 0 2) + (1 : Int32))) fun g10 =>
M_feed_L46 n a1 a2 k5 (x6 + 1) g10)
def M_feed (n : Nat) (a1 : Int32) (a2 : Int64) (g : Mem) : Option (Int32 × Mem) :=
lt9 (fun (v3 : Int32) =>
lt9 (sI g 10 0 0 v3) fun g4 =>
if (gI g4 10 0 0) ≤ 0 then (
if ((gI g4 10 0 2) + a1) ≤ (700 : Int32) then (
(M_feed_L46 n a1 a2 n (0 : Int32) g4).bind fun r11 =>
some (gI r11 10 0 2, r11))
else (
some ((-1 : Int32), g4)))
else (
some ((0 : Int32), g4))) fun j2 =>
lt9 (fun (_u : Unit) =>
j2 (1 : Int32)) fun j1 =>
if a1 < (1 : Int32) then (
j1 ())
else (
if a1 ≤ (8 : Int32) then (
j2 (0 : Int32))
else (
j1 ()))

def M_wipe (n : Nat) (g : Mem) : Option (Int32 × Mem) :=
lt9 (sI g 10 0 0 (0 : Int32)) fun g1 =>
lt9 (sI g1 10 0 2 (0 : Int32)) fun g2 =>
some (gI g1 10 0 2, g2)

def M_fail (n : Nat) (a1 : Int32) (a2 : Int32) (g : Mem) : Option (Mem) :=
if (gI g 10 0 3) = 0 then (
lt9 (sI g 10 0 3 a1) fun g1 =>
lt9 (sI g1 10 0 4 a2) fun g2 =>
some g2)
else (
some g)

def M_byteAt (n : Nat) (a1 : Int32) (g : Mem) : Option (Int32) :=
if (gI g 10 0 2) ≤ a1 then (
some (-1 : Int32))
else (
(ix a1 700).bind fun j1 =>
some (gI g 101 0 j1))

def M_isLetter (n : Nat) (a1 : Int32) : Option (Int32) :=
if a1 < (97 : Int32) then (
some (0 : Int32))
else (
if (122 : Int32) < a1 then (
some (0 : Int32))
else (
some (1 : Int32)))

def M_isFigure (n : Nat) (a1 : Int32) : Option (Int32) :=
if a1 < (48 : Int32) then (
some (0 : Int32))
else (
if (57 : Int32) < a1 then (
some (0 : Int32))
else (
some (1 : Int32)))

def M_next_L0 (n : Nat) : Nat → Mem → Option (Mem)
| 0, _ => none
| k1 + 1, g2 =>
if (gI g2 10 0 2) ≤ (gI g2 10 0 5) then (
some g2)
else (
(ix (gI g2 10 0 5) 700).bind fun j3 =>
if (32 : Int32) < (gI g2 101 0 j3) then (
some g2)
else (
lt9 (sI g2 10 0 5 ((gI g2 10 0 5) + (1 : Int32))) fun g4 =>
M_next_L0 n k1 g4))
def M_next (n : Nat) (g : Mem) : Option (Int32 × Mem) :=
(M_next_L0 n n g).bind fun r5 =>
(M_byteAt n (gI r5 10 0 5) r5).bind fun z6 =>
some (z6, r5)

def M_want (n : Nat) (a1 : Int32) (g : Mem) : Option (Mem) :=
if (gI g 10 0 3) = 0 then (
(M_next n g).bind fun z1 =>
if z1.1 = a1 then (
lt9 (sI z1.2 10 0 5 ((gI z1.2 10 0 5) + (1 : Int32))) fun g3 =>
some g3)
else (
(M_fail n (1 : Int32) (gI z1.2 10 0 5) z1.2).bind fun g2 =>
some g2))
else (
some g)

def M_wordSize_L2 (n : Nat) (a1 : Int32) (g : Mem) : Nat → Int32 → Option (Int32)
| 0, _ => none
| k1 + 1, x2 =>
(M_byteAt n (a1 + x2) g).bind fun z3 =>
(M_isLetter n z3).bind fun z4 =>
if z4 = 0 then (
some x2)
else (
M_wordSize_L2 n a1 g k1 (x2 + 1))
def M_wordSize (n : Nat) (a1 : Int32) (g : Mem) : Option (Int32) :=
(M_wordSize_L2 n a1 g n (0 : Int32)).bind fun r5 =>
some r5

def M_word_L19 (n : Nat) (z1 : Int32 × Mem) (z2 : Int32) : Nat → Int64 → Int32 → Option (Int64)
| 0, _, _ => none
| k3 + 1, x4, x5 =>
if z2 ≤ x5 then (
some x4)
else (
if (6 : Int32) ≤ x5 then (
some x4)
else (
(M_byteAt n ((gI z1.2 10 0 5) + x5) z1.2).bind fun z6 =>
M_word_L19 n z1 z2 k3 ((x4 <<< ((8 : Int32).toInt64 &&& 63)) ||| z6.toInt64) (x5 + 1)))
def M_word (n : Nat) (g : Mem) : Option (Int32 × Mem) :=
(M_next n g).bind fun z1 =>
(M_wordSize n (gI z1.2 10 0 5) z1.2).bind fun z2 =>
(M_word_L19 n z1 z2 n (0 : Int64) (0 : Int32)).bind fun r7 =>
if z2 = (1 : Int32) then (
if (104 : Int32) < z1.1 then (
if z1.1 = (109 : Int32) then (
some ((5 : Int32), z1.2))
else (
some ((0 : Int32), z1.2)))
else (
some ((4 : Int32), z1.2)))
else (
lt9 (fun (v10 : Int32) =>
lt9 (fun (v13 : Int32) =>
lt9 (fun (v16 : Int32) =>
if v10 = 0 then (
if v13 = 0 then (
if v16 = 0 then (
some ((0 : Int32), z1.2))
else (
some ((3 : Int32), z1.2)))
else (
some ((2 : Int32), z1.2)))
else (
some ((1 : Int32), z1.2))) fun j15 =>
lt9 (fun (_u : Unit) =>
j15 (0 : Int32)) fun j14 =>
if z2 = (5 : Int32) then (
if (lg_cmp r7 (512852847717 : Int64)) = 0 then (
j15 (1 : Int32))
else (
j14 ()))
else (
j14 ())) fun j12 =>
lt9 (fun (_u : Unit) =>
j12 (0 : Int32)) fun j11 =>
if z2 = (4 : Int32) then (
if (lg_cmp r7 (1701606245 : Int64)) = 0 then (
j12 (1 : Int32))
else (
j11 ()))
else (
j11 ())) fun j9 =>
lt9 (fun (_u : Unit) =>
j9 (0 : Int32)) fun j8 =>
if z2 = (2 : Int32) then (
if (lg_cmp r7 (26982 : Int64)) = 0 then (
j9 (1 : Int32))
else (
j8 ()))
else (
j8 ()))

def M_way (n : Nat) (a1 : Int32) (a2 : Int32) (g : Mem) : Option (Mem) :=
lt9 (fun (v2 : Int32) =>
(ix (gI g 10 0 24) 1600).bind fun j3 =>
lt9 (sI g 123 0 j3 (((2 : Int32) * a1) + v2)) fun g4 =>
lt9 (sI g4 10 0 24 ((gI g4 10 0 24) + (1 : Int32))) fun g5 =>
some g5) fun j1 =>
if a2 = 0 then (
j1 (0 : Int32))
else (
j1 (1 : Int32))

def M_lead_L2 (n : Nat) (a2 : Int32) : Nat → Int32 → Mem → Option (Mem)
| 0, _, _ => none
| k1 + 1, x2, g3 =>
if (gI g3 10 0 24) ≤ x2 then (
some g3)
else (
(ix x2 1600).bind fun j4 =>
(ix x2 1600).bind fun j5 =>
if ((gI g3 123 0 j5) - (gI g3 123 0 j5) / (2 : Int32) * (2 : Int32)) = 0 then (
(ix ((gI g3 123 0 j4) / (2 : Int32)) 800).bind fun j8 =>
lt9 (sI g3 119 0 j8 a2) fun g9 =>
M_lead_L2 n a2 k1 (x2 + 1) g9)
else (
(ix ((gI g3 123 0 j4) / (2 : Int32)) 800).bind fun j6 =>
lt9 (sI g3 120 0 j6 a2) fun g7 =>
M_lead_L2 n a2 k1 (x2 + 1) g7))
def M_lead (n : Nat) (a1 : Int32) (a2 : Int32) (g : Mem) : Option (Mem) :=
(M_lead_L2 n a2 n a1 g).bind fun r10 =>
lt9 (sI r10 10 0 24 a1) fun g11 =>
some g11

def M_needBlock (n : Nat) (g : Mem) : Option (Mem) :=
if (gI g 10 0 22) = (-1 : Int32) then (
lt9 (sI g 10 0 22 (gI g 10 0 16)) fun g1 =>
lt9 (sI g1 10 0 16 ((gI g1 10 0 16) + (1 : Int32))) fun g2 =>
(ix (gI g2 10 0 22) 800).bind fun j3 =>
lt9 (sI g2 119 0 j3 (-1 : Int32)) fun g4 =>
(ix (gI g4 10 0 22) 800).bind fun j5 =>
lt9 (sI g4 120 0 j5 (-1 : Int32)) fun g6 =>
(ix (gI g6 10 0 22) 800).bind fun j7 =>
lt9 (sI g6 121 0 j7 (0 : Int32)) fun g8 =>
(M_lead n (gI g8 10 0 49) (gI g8 10 0 22) g8).bind fun g9 =>
some g9)
else (
some g)

def M_emit (n : Nat) (a1 : Int32) (a2 : Int32) (a3 : Int32) (a4 : Int32) (g : Mem) : Option (Int32 × Mem) :=
lt9 (fun (g3 : Mem) =>
if (gI g3 10 0 3) ≤ 0 then (
(M_needBlock n g3).bind fun g4 =>
lt9 (sI g4 10 0 10 ((gI g4 10 0 10) + (1 : Int32))) fun g5 =>
(ix (gI g4 10 0 10) 200).bind fun j6 =>
lt9 (sI g5 111 0 j6 a1) fun g7 =>
(ix ((2 : Int32) * (gI g4 10 0 10)) 400).bind fun j8 =>
lt9 (sI g7 112 0 j8 a3) fun g9 =>
(ix ((2 : Int32) * (gI g4 10 0 10)) 400).bind fun j10 =>
lt9 (sI g9 113 0 j10 a4) fun g11 =>
(ix (((2 : Int32) * (gI g4 10 0 10)) + (1 : Int32)) 400).bind fun j12 =>
lt9 (sI g11 112 0 j12 (gI g11 10 0 8)) fun g13 =>
(ix (((2 : Int32) * (gI g4 10 0 10)) + (1 : Int32)) 400).bind fun j14 =>
lt9 (sI g13 113 0 j14 (gI g13 10 0 9)) fun g15 =>
(ix (gI g4 10 0 10) 200).bind fun j16 =>
lt9 (sI g15 114 0 j16 (-1 : Int32)) fun g17 =>
(ix (gI g4 10 0 10) 200).bind fun j18 =>
lt9 (sI g17 115 0 j18 (gI g17 10 0 22)) fun g19 =>
lt9 (sI g19 10 0 8 (3 : Int32)) fun g20 =>
lt9 (sI g20 10 0 9 (gI g4 10 0 10)) fun g21 =>
some (gI g4 10 0 10, g21))
else (
some ((0 : Int32), g3))) fun j1 =>
if (gI g 10 0 3) = 0 then (
if (gI g 10 0 10) = (200 : Int32) then (
(M_fail n (3 : Int32) a2 g).bind fun g2 =>
j1 g2)
else (
j1 g))
else (
j1 g)

def M_open (n : Nat) (g : Mem) : Option (Mem) :=
lt9 (fun (g3 : Mem) =>
lt9 (sI g3 10 0 6 ((gI g3 10 0 6) + (1 : Int32))) fun g4 =>
lt9 (sI g4 10 0 5 ((gI g4 10 0 5) + (1 : Int32))) fun g5 =>
some g5) fun j1 =>
if (gI g 10 0 6) = (20 : Int32) then (
(M_fail n (3 : Int32) (gI g 10 0 5) g).bind fun g2 =>
j1 g2)
else (
j1 g)

def M_number_L7 (n : Nat) : Nat → Int64 → Mem → Option (Int64 × Mem)
| 0, _, _ => none
| k1 + 1, x2, g3 =>
(M_byteAt n (gI g3 10 0 5) g3).bind fun z4 =>
(M_isFigure n z4).bind fun z5 =>
if z5 = 0 then (
some (x2, g3))
else (
(M_byteAt n (gI g3 10 0 5) g3).bind fun z6 =>
lt9 (fun (v8 : Int64) =>
lt9 (sI g3 10 0 5 ((gI g3 10 0 5) + (1 : Int32))) fun g9 =>
M_number_L7 n k1 v8 g9) fun j7 =>
if (lg_cmp (((x2 * (10 : Int64)) + z6.toInt64) - (48 : Int64)) (9999999999 : Int64)) ≤ 0 then (
j7 (((x2 * (10 : Int64)) + z6.toInt64) - (48 : Int64)))
else (
j7 (9999999999 : Int64)))
def M_number (n : Nat) (g : Mem) : Option (Mem) :=
(M_number_L7 n n (0 : Int64) g).bind fun r10 =>
lt9 (fun (g13 : Mem) =>
lt9 (sI g13 10 0 8 (1 : Int32)) fun g14 =>
lt9 (sI g14 10 0 9 r10.1.toInt32) fun g15 =>
some g15) fun j11 =>
if (lg_cmp r10.1 (2147483647 : Int64)) ≤ 0 then (
j11 r10.2)
else (
(M_fail n (2 : Int32) (gI g 10 0 5) r10.2).bind fun g12 =>
j11 g12)

def M_factor (rc : Mem → Option (Mem)) (n : Nat) (g : Mem) : Option (Mem) :=
(M_next n g).bind fun z1 =>
if (gI z1.2 10 0 3) ≤ 0 then (
(M_isFigure n z1.1).bind fun z2 =>
if z2 = 0 then (
if z1.1 = (40 : Int32) then (
(M_open n z1.2).bind fun g23 =>
(rc g23).bind fun g24 =>
(M_want n (41 : Int32) g24).bind fun g25 =>
lt9 (sI g25 10 0 6 ((gI g25 10 0 6) - (1 : Int32))) fun g26 =>
some g26)
else (
(M_isLetter n z1.1).bind fun z3 =>
lt9 (fun (g9 : Mem) =>
(M_isLetter n z1.1).bind fun z10 =>
if z10 = 0 then (
(M_fail n (1 : Int32) (gI g9 10 0 5) g9).bind fun g11 =>
some g11)
else (
(M_word n g9).bind fun z12 =>
if z12.1 = (5 : Int32) then (
lt9 (sI z12.2 10 0 5 ((gI z12.2 10 0 5) + (1 : Int32))) fun g14 =>
(M_next n g14).bind fun z15 =>
if z15.1 = (91 : Int32) then (
(M_open n z15.2).bind fun g16 =>
(rc g16).bind fun g17 =>
(M_want n (93 : Int32) g17).bind fun g18 =>
lt9 (sI g18 10 0 6 ((gI g18 10 0 6) - (1 : Int32))) fun g19 =>
lt9 (sI g19 10 0 8 (0 : Int32)) fun g20 =>
(M_emit n (5 : Int32) (gI z1.2 10 0 5) (gI g19 10 0 8) (gI g19 10 0 9) g20).bind fun z21 =>
some z21.2)
else (
(M_fail n (1 : Int32) (gI z15.2 10 0 5) z15.2).bind fun g22 =>
some g22))
else (
(M_fail n (1 : Int32) (gI z12.2 10 0 5) z12.2).bind fun g13 =>
some g13))) fun j4 =>
if z3 = 0 then (
j4 z1.2)
else (
(M_word n z1.2).bind fun z5 =>
if z5.1 = (4 : Int32) then (
lt9 (sI z5.2 10 0 8 (2 : Int32)) fun g6 =>
lt9 (sI g6 10 0 9 (z1.1 - (97 : Int32))) fun g7 =>
lt9 (sI g7 10 0 5 ((gI g7 10 0 5) + (1 : Int32))) fun g8 =>
some g8)
else (
j4 z5.2))))
else (
(M_number n z1.2).bind fun g27 =>
some g27))
else (
some z1.2)

def M_join (n : Nat) (a1 : Int32) (a2 : Int32) (a3 : Int32) (a4 : Int32) (g : Mem) : Option (Mem) :=
if (gI g 10 0 3) = 0 then (
(M_emit n a1 a2 a3 a4 g).bind fun z1 =>
some z1.2)
else (
some g)

def M_term_L4 (n : Nat) (rc : Mem → Option (Mem)) : Nat → Mem → Option (Mem)
| 0, _ => none
| k2 + 1, g3 =>
if (gI g3 10 0 3) = 0 then (
(M_next n g3).bind fun z4 =>
if z4.1 = (42 : Int32) then (
lt9 (sI z4.2 10 0 5 ((gI z4.2 10 0 5) + (1 : Int32))) fun g5 =>
(M_factor rc n g5).bind fun g6 =>
(M_join n (2 : Int32) (gI z4.2 10 0 5) (gI z4.2 10 0 8) (gI z4.2 10 0 9) g6).bind fun g7 =>
M_term_L4 n rc k2 g7)
else (
some z4.2))
else (
some g3)
def M_term (rc : Mem → Option (Mem)) (n : Nat) (g : Mem) : Option (Mem) :=
(M_factor rc n g).bind fun g1 =>
(M_term_L4 n rc n g1).bind fun r8 =>
some r8

def M_sum_L4 (n : Nat) (rc : Mem → Option (Mem)) : Nat → Mem → Option (Mem)
| 0, _ => none
| k2 + 1, g3 =>
if (gI g3 10 0 3) = 0 then (
(M_next n g3).bind fun z4 =>
lt9 (fun (g7 : Mem) =>
(M_byteAt n (gI g7 10 0 5) g7).bind fun z8 =>
lt9 (fun (v10 : Int32) =>
lt9 (sI g7 10 0 5 ((gI g7 10 0 5) + (1 : Int32))) fun g11 =>
(M_term rc n g11).bind fun g12 =>
(M_join n v10 (gI g7 10 0 5) (gI g7 10 0 8) (gI g7 10 0 9) g12).bind fun g13 =>
M_sum_L4 n rc k2 g13) fun j9 =>
if z8 = (43 : Int32) then (
j9 (0 : Int32))
else (
j9 (1 : Int32))) fun j5 =>
if z4.1 = (43 : Int32) then (
j5 z4.2)
else (
(M_next n z4.2).bind fun z6 =>
if z6.1 = (45 : Int32) then (
j5 z6.2)
else (
some z6.2)))
else (
some g3)
def M_sum (rc : Mem → Option (Mem)) (n : Nat) (g : Mem) : Option (Mem) :=
(M_term rc n g).bind fun g1 =>
(M_sum_L4 n rc n g1).bind fun r14 =>
some r14

def M_expression_b (rc : Mem → Option (Mem)) (n : Nat) (g : Mem) : Option (Mem) :=
(M_sum rc n g).bind fun g1 =>
if (gI g1 10 0 3) = 0 then (
(M_next n g1).bind fun z2 =>
lt9 (fun (g5 : Mem) =>
(M_byteAt n (gI g5 10 0 5) g5).bind fun z6 =>
lt9 (fun (v8 : Int32) =>
lt9 (sI g5 10 0 5 ((gI g5 10 0 5) + (1 : Int32))) fun g9 =>
(M_sum rc n g9).bind fun g10 =>
(M_join n v8 (gI g5 10 0 5) (gI g5 10 0 8) (gI g5 10 0 9) g10).bind fun g11 =>
some g11) fun j7 =>
if z6 = (60 : Int32) then (
j7 (3 : Int32))
else (
j7 (4 : Int32))) fun j3 =>
if z2.1 = (60 : Int32) then (
j3 z2.2)
else (
(M_next n z2.2).bind fun z4 =>
if z4.1 = (61 : Int32) then (
j3 z4.2)
else (
some z4.2)))
else (
some g1)
def M_expression (n : Nat) : Nat → Mem → Option (Mem)
| 0, _ => none
| d + 1, g => M_expression_b (M_expression n d) n g

def M_assignment (n : Nat) (g : Mem) : Option (Mem) :=
(M_next n g).bind fun z1 =>
lt9 (sI z1.2 10 0 5 ((gI z1.2 10 0 5) + (1 : Int32))) fun g2 =>
(M_want n (61 : Int32) g2).bind fun g3 =>
(M_expression n 30 g3).bind fun g4 =>
(M_want n (59 : Int32) g4).bind fun g5 =>
if (gI g5 10 0 3) ≤ 0 then (
lt9 (fun (g9 : Mem) =>
if (gI g9 10 0 3) = 0 then (
(ix ((gI g9 10 0 10) - (1 : Int32)) 200).bind fun j10 =>
lt9 (sI g9 114 0 j10 (z1.1 - (97 : Int32))) fun g11 =>
some g11)
else (
some g9)) fun j6 =>
if (gI g5 10 0 10) = (gI g3 10 0 10) then (
lt9 (sI g5 10 0 8 (0 : Int32)) fun g7 =>
(M_emit n (7 : Int32) (gI g 10 0 5) (gI g5 10 0 8) (gI g5 10 0 9) g7).bind fun z8 =>
j6 z8.2)
else (
j6 g5))
else (
some g5)

def M_writing (n : Nat) (g : Mem) : Option (Mem) :=
lt9 (sI g 10 0 5 ((gI g 10 0 5) + (1 : Int32))) fun g1 =>
(M_next n g1).bind fun z2 =>
if z2.1 = (91 : Int32) then (
(M_open n z2.2).bind fun g3 =>
(M_expression n 30 g3).bind fun g4 =>
(M_want n (93 : Int32) g4).bind fun g5 =>
lt9 (sI g5 10 0 6 ((gI g5 10 0 6) - (1 : Int32))) fun g6 =>
(M_want n (61 : Int32) g6).bind fun g7 =>
lt9 (fun (g10 : Mem) =>
(M_want n (59 : Int32) g10).bind fun g11 =>
if (gI g11 10 0 3) = 0 then (
(M_emit n (6 : Int32) (gI g 10 0 5) (gI g6 10 0 8) (gI g6 10 0 9) g11).bind fun z12 =>
some z12.2)
else (
some g11)) fun j8 =>
if (gI g7 10 0 3) = 0 then (
(M_expression n 30 g7).bind fun g9 =>
j8 g9)
else (
j8 g7))
else (
(M_fail n (1 : Int32) (gI z2.2 10 0 5) z2.2).bind fun g13 =>
some g13)

def M_inBraces (rc : Mem → Option (Mem)) (n : Nat) (g : Mem) : Option (Mem) :=
lt9 (fun (g4 : Mem) =>
(M_want n (123 : Int32) g4).bind fun g5 =>
lt9 (sI g5 10 0 7 ((gI g5 10 0 7) + (1 : Int32))) fun g6 =>
(rc g6).bind fun g7 =>
(M_want n (125 : Int32) g7).bind fun g8 =>
lt9 (sI g8 10 0 7 ((gI g8 10 0 7) - (1 : Int32))) fun g9 =>
some g9) fun j1 =>
if (gI g 10 0 3) = 0 then (
(M_next n g).bind fun z2 =>
if z2.1 = (123 : Int32) then (
if (gI z2.2 10 0 7) = (10 : Int32) then (
(M_fail n (3 : Int32) (gI z2.2 10 0 5) z2.2).bind fun g3 =>
j1 g3)
else (
j1 z2.2))
else (
j1 z2.2))
else (
j1 g)

def M_endBlock (n : Nat) (g : Mem) : Option (Int32 × Mem) :=
(M_needBlock n g).bind fun g1 =>
(ix (gI g1 10 0 22) 800).bind fun j2 =>
lt9 (sI g1 121 0 j2 (1 : Int32)) fun g3 =>
(ix (gI g1 10 0 22) 800).bind fun j4 =>
lt9 (sI g3 117 0 j4 (gI g3 10 0 8)) fun g5 =>
(ix (gI g1 10 0 22) 800).bind fun j6 =>
lt9 (sI g5 118 0 j6 (gI g5 10 0 9)) fun g7 =>
lt9 (sI g7 10 0 22 (-1 : Int32)) fun g8 =>
some (gI g1 10 0 22, g8)

def M_leaveOpen (n : Nat) (g : Mem) : Option (Mem) :=
if (gI g 10 0 22) = (-1 : Int32) then (
some g)
else (
(M_way n (gI g 10 0 22) (0 : Int32) g).bind fun g1 =>
lt9 (sI g1 10 0 22 (-1 : Int32)) fun g2 =>
some g2)

def M_choice (rc : Mem → Option (Mem)) (n : Nat) (g : Mem) : Option (Mem) :=
lt9 (sI g 10 0 5 ((gI g 10 0 5) + (2 : Int32))) fun g1 =>
(M_expression n 30 g1).bind fun g2 =>
if (gI g2 10 0 3) ≤ 0 then (
(M_endBlock n g2).bind fun z3 =>
(M_way n z3.1 (0 : Int32) z3.2).bind fun g4 =>
(M_inBraces rc n g4).bind fun g5 =>
(M_leaveOpen n g5).bind fun g6 =>
if (gI g6 10 0 3) = 0 then (
(M_word n g6).bind fun z8 =>
if z8.1 = (2 : Int32) then (
lt9 (sI z8.2 10 0 5 ((gI z8.2 10 0 5) + (4 : Int32))) fun g10 =>
lt9 (sI g10 10 0 49 (gI g10 10 0 24)) fun g11 =>
(M_way n z3.1 (1 : Int32) g11).bind fun g12 =>
(M_inBraces rc n g12).bind fun g13 =>
(M_leaveOpen n g13).bind fun g14 =>
lt9 (sI g14 10 0 49 (gI z3.2 10 0 49)) fun g15 =>
some g15)
else (
(M_way n z3.1 (1 : Int32) z8.2).bind fun g9 =>
some g9))
else (
(M_way n z3.1 (1 : Int32) g6).bind fun g7 =>
some g7))
else (
some g2)

def M_loop (rc : Mem → Option (Mem)) (n : Nat) (g : Mem) : Option (Mem) :=
lt9 (sI g 10 0 5 ((gI g 10 0 5) + (5 : Int32))) fun g1 =>
(M_leaveOpen n g1).bind fun g2 =>
(M_needBlock n g2).bind fun g3 =>
(M_expression n 30 g3).bind fun g4 =>
if (gI g4 10 0 3) ≤ 0 then (
(M_endBlock n g4).bind fun z5 =>
(M_way n z5.1 (0 : Int32) z5.2).bind fun g6 =>
(M_inBraces rc n g6).bind fun g7 =>
(M_leaveOpen n g7).bind fun g8 =>
(M_lead n (gI g8 10 0 49) z5.1 g8).bind fun g9 =>
(M_way n z5.1 (1 : Int32) g9).bind fun g10 =>
some g10)
else (
some g4)

def M_statements_L0 (n : Nat) (rc : Mem → Option (Mem)) : Nat → Mem → Option (Mem)
| 0, _ => none
| k1 + 1, g2 =>
if (gI g2 10 0 3) = 0 then (
(M_next n g2).bind fun z3 =>
(M_isLetter n z3.1).bind fun z4 =>
if z4 = 0 then (
some z3.2)
else (
(M_word n z3.2).bind fun z5 =>
if z5.1 = (4 : Int32) then (
(M_assignment n z5.2).bind fun g10 =>
M_statements_L0 n rc k1 g10)
else (
if z5.1 = (5 : Int32) then (
(M_writing n z5.2).bind fun g9 =>
M_statements_L0 n rc k1 g9)
else (
if z5.1 = (1 : Int32) then (
(M_choice rc n z5.2).bind fun g8 =>
M_statements_L0 n rc k1 g8)
else (
if z5.1 = (3 : Int32) then (
(M_loop rc n z5.2).bind fun g7 =>
M_statements_L0 n rc k1 g7)
else (
(M_fail n (1 : Int32) (gI z5.2 10 0 5) z5.2).bind fun g6 =>
M_statements_L0 n rc k1 g6))))))
else (
some g2)
def M_statements_b (rc : Mem → Option (Mem)) (n : Nat) (g : Mem) : Option (Mem) :=
(M_statements_L0 n rc n g).bind fun r11 =>
some r11
def M_statements (n : Nat) : Nat → Mem → Option (Mem)
| 0, _ => none
| d + 1, g => M_statements_b (M_statements n d) n g

def M_kindOf (n : Nat) (a1 : Int32) : Option (Int32) :=
if a1 = (2 : Int32) then (
some (1 : Int32))
else (
if a1 = (5 : Int32) then (
some (2 : Int32))
else (
if a1 = (6 : Int32) then (
some (2 : Int32))
else (
if a1 = (7 : Int32) then (
some (3 : Int32))
else (
some (0 : Int32)))))

def M_latencyOf (n : Nat) (a1 : Int32) (g : Mem) : Option (Int32) :=
(ix a1 200).bind fun j1 =>
(M_kindOf n (gI g 126 0 j1)).bind fun z2 =>
(ix z2 4).bind fun j3 =>
some (gI g 138 0 j3)

def M_endOf (n : Nat) (a1 : Int32) (g : Mem) : Option (Int32) :=
(ix a1 200).bind fun j1 =>
(M_latencyOf n a1 g).bind fun z2 =>
some ((gI g 140 0 j1) + z2)

def M_meet (n : Nat) (a1 : Int32) (a2 : Int32) (g : Mem) : Option (Int32) :=
(M_endOf n a1 g).bind fun z1 =>
(ix a2 200).bind fun j2 =>
if (gI g 150 0 j2) < z1 then (
some (0 : Int32))
else (
(M_endOf n a2 g).bind fun z3 =>
(ix a1 200).bind fun j4 =>
if (gI g 150 0 j4) < z3 then (
some (0 : Int32))
else (
some (1 : Int32)))

def M_bindOne_L37 (n : Nat) (a1 : Int32) (g : Mem) (v4 : Int32) (x6 : Int32) : Nat → Int32 → Int32 → Option (Int32)
| 0, _, _ => none
| k8 + 1, x9, x10 =>
if (gI g 10 0 25) ≤ x10 then (
some x9)
else (
if x9 = 0 then (
if x10 = a1 then (
M_bindOne_L37 n a1 g v4 x6 k8 (0 : Int32) (x10 + 1))
else (
if v4 = 0 then (
(ix x10 200).bind fun j11 =>
(ix a1 200).bind fun j12 =>
if (gI g 130 0 j11) = (gI g 130 0 j12) then (
(ix x10 200).bind fun j13 =>
if (gI g 142 0 j13) = (x6 + 1) then (
(M_meet n a1 x10 g).bind fun z14 =>
if z14 = 0 then (
M_bindOne_L37 n a1 g v4 x6 k8 (0 : Int32) (x10 + 1))
else (
M_bindOne_L37 n a1 g v4 x6 k8 (1 : Int32) (x10 + 1)))
else (
M_bindOne_L37 n a1 g v4 x6 k8 (0 : Int32) (x10 + 1)))
else (
M_bindOne_L37 n a1 g v4 x6 k8 (0 : Int32) (x10 + 1)))
else (
M_bindOne_L37 n a1 g v4 x6 k8 (0 : Int32) (x10 + 1))))
else (
M_bindOne_L37 n a1 g v4 x6 k8 (1 : Int32) (x10 + 1)))
def M_bindOne_L25 (n : Nat) (a1 : Int32) (g : Mem) (v4 : Int32) : Nat → Int32 → Int32 → Option (Int32)
| 0, _, _ => none
| k5 + 1, x6, x7 =>
if x7 = 0 then (
some x6)
else (
(M_bindOne_L37 n a1 g v4 x6 n (0 : Int32) (0 : Int32)).bind fun r15 =>
M_bindOne_L25 n a1 g v4 k5 (x6 + 1) r15)
def M_bindOne (n : Nat) (a1 : Int32) (g : Mem) : Option (Mem) :=
(M_endOf n a1 g).bind fun z1 =>
(ix a1 200).bind fun j2 =>
lt9 (fun (v4 : Int32) =>
(M_bindOne_L25 n a1 g v4 n (-1 : Int32) (1 : Int32)).bind fun r16 =>
(ix a1 200).bind fun j17 =>
lt9 (sI g 142 0 j17 r16) fun g18 =>
some g18) fun j3 =>
if z1 ≤ (gI g 150 0 j2) then (
j3 (0 : Int32))
else (
j3 (1 : Int32))

def M_behindAll_L4 (n : Nat) (a1 : Int32) (g : Mem) : Nat → Int32 → Int32 → Option (Int32)
| 0, _, _ => none
| k1 + 1, x2, x3 =>
if (gI g 10 0 25) ≤ x3 then (
some x2)
else (
(ix x3 200).bind fun j4 =>
if (gI g 130 0 j4) = a1 then (
M_behindAll_L4 n a1 g k1 (x3 + (1 : Int32)) (x3 + 1))
else (
M_behindAll_L4 n a1 g k1 x2 (x3 + 1)))
def M_behindAll (n : Nat) (a1 : Int32) (g : Mem) : Option (Int32) :=
(M_behindAll_L4 n a1 g n (0 : Int32) (0 : Int32)).bind fun r5 =>
some r5

def M_isEnd (n : Nat) (a1 : Int32) (a2 : Int32) (g : Mem) : Option (Int32) :=
(ix a2 800).bind fun j1 =>
if (gI g 136 0 j1) = 0 then (
some (0 : Int32))
else (
(ix a2 800).bind fun j2 =>
if (gI g 132 0 j2) = (3 : Int32) then (
(ix a2 800).bind fun j3 =>
if (gI g 133 0 j3) = a1 then (
some (1 : Int32))
else (
some (0 : Int32)))
else (
some (0 : Int32)))

def M_usesValue (n : Nat) (a1 : Int32) (a2 : Int32) (g : Mem) : Option (Int32) :=
(ix ((2 : Int32) * a1) 400).bind fun j1 =>
lt9 (fun (_u : Unit) =>
(ix (((2 : Int32) * a1) + (1 : Int32)) 400).bind fun j4 =>
if (gI g 127 0 j4) = (3 : Int32) then (
(ix (((2 : Int32) * a1) + (1 : Int32)) 400).bind fun j5 =>
if (gI g 128 0 j5) = a2 then (
some (1 : Int32))
else (
some (0 : Int32)))
else (
some (0 : Int32))) fun j2 =>
if (gI g 127 0 j1) = (3 : Int32) then (
(ix ((2 : Int32) * a1) 400).bind fun j3 =>
if (gI g 128 0 j3) = a2 then (
some (1 : Int32))
else (
j2 ()))
else (
j2 ())

def M_heldTo_L42 (n : Nat) (a1 : Int32) (g : Mem) (z6 : Int32) : Nat → Int32 → Int32 → Option (Int32)
| 0, _, _ => none
| k7 + 1, x8, x9 =>
if z6 ≤ x9 then (
some x8)
else (
(M_usesValue n x9 a1 g).bind fun z10 =>
if z10 = 0 then (
M_heldTo_L42 n a1 g z6 k7 x8 (x9 + 1))
else (
(ix x9 200).bind fun j11 =>
if (gI g 140 0 j11) ≤ x8 then (
M_heldTo_L42 n a1 g z6 k7 x8 (x9 + 1))
else (
(ix x9 200).bind fun j12 =>
M_heldTo_L42 n a1 g z6 k7 (gI g 140 0 j12) (x9 + 1))))
def M_heldTo (n : Nat) (a1 : Int32) (g : Mem) : Option (Int32) :=
(ix a1 200).bind fun j1 =>
(M_isEnd n a1 (gI g 130 0 j1) g).bind fun z2 =>
lt9 (fun (v5 : Int32) =>
(M_behindAll n (gI g 130 0 j1) g).bind fun z6 =>
(M_heldTo_L42 n a1 g z6 n v5 (a1 + (1 : Int32))).bind fun r13 =>
some r13) fun j3 =>
if z2 = 0 then (
j3 (-2 : Int32))
else (
(ix (gI g 130 0 j1) 800).bind fun j4 =>
j3 ((gI g 143 0 j4) - (1 : Int32)))

def M_holds (n : Nat) (a1 : Int32) (g : Mem) : Option (Int32) :=
(ix a1 200).bind fun j1 =>
if 0 ≤ (gI g 129 0 j1) then (
some (0 : Int32))
else (
(ix a1 200).bind fun j2 =>
if (gI g 150 0 j2) ≤ (-2 : Int32) then (
some (0 : Int32))
else (
some (1 : Int32)))

def M_isBefore (n : Nat) (a1 : Int32) (a2 : Int32) (g : Mem) : Option (Int32) :=
(M_endOf n a1 g).bind fun z1 =>
(M_endOf n a2 g).bind fun z2 =>
if z1 < z2 then (
some (1 : Int32))
else (
(M_endOf n a1 g).bind fun z3 =>
(M_endOf n a2 g).bind fun z4 =>
if z3 = z4 then (
if a2 ≤ a1 then (
some (0 : Int32))
else (
some (1 : Int32)))
else (
some (0 : Int32)))

def M_bindRegisters_L2 (n : Nat) : Nat → Int32 → Mem → Option (Mem)
| 0, _, _ => none
| k1 + 1, x2, g3 =>
if (gI g3 10 0 25) ≤ x2 then (
some g3)
else (
(ix x2 200).bind fun j4 =>
lt9 (sI g3 142 0 j4 (-1 : Int32)) fun g5 =>
(M_heldTo n x2 g5).bind fun z6 =>
(ix x2 200).bind fun j7 =>
lt9 (sI g5 150 0 j7 z6) fun g8 =>
M_bindRegisters_L2 n k1 (x2 + 1) g8)
def M_bindRegisters_L38 (n : Nat) (r9 : (Mem)) : Nat → Int32 → Int32 → Option (Int32)
| 0, _, _ => none
| k10 + 1, x11, x12 =>
if (gI r9 10 0 25) ≤ x12 then (
some x11)
else (
(M_holds n x12 r9).bind fun z13 =>
if z13 = 0 then (
M_bindRegisters_L38 n r9 k10 x11 (x12 + 1))
else (
M_bindRegisters_L38 n r9 k10 (x11 + (1 : Int32)) (x12 + 1)))
def M_bindRegisters_L76 (n : Nat) (g17 : Mem) : Nat → Int32 → Int32 → Option (Int32)
| 0, _, _ => none
| k18 + 1, x19, x20 =>
if (gI g17 10 0 25) ≤ x20 then (
some x19)
else (
(M_holds n x20 g17).bind fun z21 =>
lt9 (fun (v25 : Int32) =>
if v25 = 0 then (
M_bindRegisters_L76 n g17 k18 x19 (x20 + 1))
else (
if x19 < 0 then (
M_bindRegisters_L76 n g17 k18 x20 (x20 + 1))
else (
(M_isBefore n x20 x19 g17).bind fun z26 =>
if z26 = 0 then (
M_bindRegisters_L76 n g17 k18 x19 (x20 + 1))
else (
M_bindRegisters_L76 n g17 k18 x20 (x20 + 1))))) fun j23 =>
lt9 (fun (_u : Unit) =>
j23 (0 : Int32)) fun j22 =>
if z21 = 0 then (
j22 ())
else (
(ix x20 200).bind fun j24 =>
if 0 ≤ (gI g17 142 0 j24) then (
j22 ())
else (
j23 (1 : Int32))))
def M_bindRegisters_L68 (n : Nat) : Nat → Int32 → Mem → Option (Mem)
| 0, _, _ => none
| k15 + 1, x16, g17 =>
if x16 ≤ 0 then (
some g17)
else (
(M_bindRegisters_L76 n g17 n (-1 : Int32) (0 : Int32)).bind fun r27 =>
(M_bindOne n r27 g17).bind fun g28 =>
M_bindRegisters_L68 n k15 (x16 + (-1)) g28)
def M_bindRegisters (n : Nat) (g : Mem) : Option (Mem) :=
(M_bindRegisters_L2 n n (0 : Int32) g).bind fun r9 =>
(M_bindRegisters_L38 n r9 n (0 : Int32) (0 : Int32)).bind fun r14 =>
(M_bindRegisters_L68 n n r14 r9).bind fun r29 =>
some r29

def M_first_L2 (n : Nat) (a1 : Int32) (g : Mem) : Nat → Int32 → Option ((Int32) ⊕ (Unit))
| 0, _ => none
| k1 + 1, x2 =>
if (gI g 10 0 25) ≤ x2 then (
some (.inr ()))
else (
(ix x2 200).bind fun j3 =>
if (gI g 130 0 j3) = a1 then (
some (.inl x2))
else (
M_first_L2 n a1 g k1 (x2 + 1)))
def M_first (n : Nat) (a1 : Int32) (g : Mem) : Option (Int32) :=
(M_first_L2 n a1 g n (0 : Int32)).bind fun r4 =>
match r4 with
| .inl t5 => (
some t5)
| .inr t6 => (
some (-1 : Int32))


def M_freeUnit_L53 (n : Nat) (a3 : Int32) (g : Mem) (x6 : Int32) (z2 : Int32) (z4 : Int32) : Nat → Int32 → Int32 → Option (Int32)
| 0, _, _ => none
| k9 + 1, x10, x11 =>
if z4 ≤ x11 then (
some x10)
else (
(ix x11 200).bind fun j12 =>
lt9 (fun (v17 : Int32) =>
if x10 = 0 then (
M_freeUnit_L53 n a3 g x6 z2 z4 k9 (0 : Int32) (x11 + 1))
else (
if v17 = 0 then (
M_freeUnit_L53 n a3 g x6 z2 z4 k9 (1 : Int32) (x11 + 1))
else (
(ix x11 200).bind fun j18 =>
(M_kindOf n (gI g 126 0 j18)).bind fun z19 =>
if z19 = z2 then (
(ix x11 200).bind fun j20 =>
if (gI g 141 0 j20) = x6 then (
M_freeUnit_L53 n a3 g x6 z2 z4 k9 (0 : Int32) (x11 + 1))
else (
M_freeUnit_L53 n a3 g x6 z2 z4 k9 (1 : Int32) (x11 + 1)))
else (
M_freeUnit_L53 n a3 g x6 z2 z4 k9 (1 : Int32) (x11 + 1))))) fun j14 =>
lt9 (fun (_u : Unit) =>
j14 (0 : Int32)) fun j13 =>
if (gI g 140 0 j12) < 0 then (
j13 ())
else (
(ix x11 200).bind fun j15 =>
if a3 < (gI g 140 0 j15) then (
j13 ())
else (
(M_endOf n x11 g).bind fun z16 =>
if z16 ≤ a3 then (
j13 ())
else (
j14 (1 : Int32)))))
def M_freeUnit_L28 (n : Nat) (a3 : Int32) (g : Mem) (z2 : Int32) (z3 : Int32) (z4 : Int32) : Nat → Int32 → Option ((Int32) ⊕ (Unit))
| 0, _ => none
| k5 + 1, x6 =>
lt9 (fun (_u : Unit) =>
(M_freeUnit_L53 n a3 g x6 z2 z4 n (1 : Int32) z3).bind fun r21 =>
if r21 = 0 then (
M_freeUnit_L28 n a3 g z2 z3 z4 k5 (x6 + 1))
else (
some (.inl x6))) fun j7 =>
if z2 = (3 : Int32) then (
j7 ())
else (
(ix z2 3).bind fun j8 =>
if (gI g 137 0 j8) ≤ x6 then (
some (.inr ()))
else (
j7 ()))
def M_freeUnit (n : Nat) (a1 : Int32) (a2 : Int32) (a3 : Int32) (g : Mem) : Option (Int32) :=
(ix a1 200).bind fun j1 =>
(M_kindOf n (gI g 126 0 j1)).bind fun z2 =>
(M_first n a2 g).bind fun z3 =>
(M_behindAll n a2 g).bind fun z4 =>
(M_freeUnit_L28 n a3 g z2 z3 z4 n (0 : Int32)).bind fun r22 =>
match r22 with
| .inl t23 => (
some t23)
| .inr t24 => (
some (-1 : Int32))


def M_usesVariable (n : Nat) (a1 : Int32) (a2 : Int32) (g : Mem) : Option (Int32) :=
(ix ((2 : Int32) * a1) 400).bind fun j1 =>
lt9 (fun (_u : Unit) =>
(ix (((2 : Int32) * a1) + (1 : Int32)) 400).bind fun j4 =>
if (gI g 127 0 j4) = (2 : Int32) then (
(ix (((2 : Int32) * a1) + (1 : Int32)) 400).bind fun j5 =>
if (gI g 128 0 j5) = a2 then (
some (1 : Int32))
else (
some (0 : Int32)))
else (
some (0 : Int32))) fun j2 =>
if (gI g 127 0 j1) = (2 : Int32) then (
(ix ((2 : Int32) * a1) 400).bind fun j3 =>
if (gI g 128 0 j3) = a2 then (
some (1 : Int32))
else (
j2 ()))
else (
j2 ())

def M_comesBehind (n : Nat) (a1 : Int32) (a2 : Int32) (g : Mem) : Option (Int32) :=
(M_usesValue n a1 a2 g).bind fun z1 =>
if z1 = 0 then (
(ix a2 200).bind fun j2 =>
lt9 (fun (_u : Unit) =>
(ix a1 200).bind fun j8 =>
lt9 (fun (_u : Unit) =>
(ix a2 200).bind fun j12 =>
(M_kindOf n (gI g 126 0 j12)).bind fun z13 =>
lt9 (fun (v18 : Int32) =>
if v18 = 0 then (
some (0 : Int32))
else (
(ix a2 200).bind fun j19 =>
if (gI g 126 0 j19) = (6 : Int32) then (
some (1 : Int32))
else (
(ix a1 200).bind fun j20 =>
if (gI g 126 0 j20) = (6 : Int32) then (
some (1 : Int32))
else (
some (0 : Int32))))) fun j15 =>
lt9 (fun (_u : Unit) =>
j15 (0 : Int32)) fun j14 =>
if z13 = (2 : Int32) then (
(ix a1 200).bind fun j16 =>
(M_kindOf n (gI g 126 0 j16)).bind fun z17 =>
if z17 = (2 : Int32) then (
j15 (1 : Int32))
else (
j14 ()))
else (
j14 ())) fun j9 =>
if (gI g 129 0 j8) < 0 then (
j9 ())
else (
(ix a1 200).bind fun j10 =>
(M_usesVariable n a2 (gI g 129 0 j10) g).bind fun z11 =>
if z11 = 0 then (
j9 ())
else (
some (1 : Int32)))) fun j3 =>
if (gI g 129 0 j2) < 0 then (
j3 ())
else (
(ix a2 200).bind fun j4 =>
(M_usesVariable n a1 (gI g 129 0 j4) g).bind fun z5 =>
if z5 = 0 then (
(ix a1 200).bind fun j6 =>
(ix a2 200).bind fun j7 =>
if (gI g 129 0 j6) = (gI g 129 0 j7) then (
some (1 : Int32))
else (
j3 ()))
else (
some (1 : Int32))))
else (
some (1 : Int32))

def M_isReady_L7 (n : Nat) (a1 : Int32) (a3 : Int32) (g : Mem) : Nat → Int32 → Option ((Unit) ⊕ (Unit))
| 0, _ => none
| k2 + 1, x3 =>
if a1 ≤ x3 then (
some (.inr ()))
else (
(M_comesBehind n a1 x3 g).bind fun z4 =>
if z4 = 0 then (
M_isReady_L7 n a1 a3 g k2 (x3 + 1))
else (
(ix x3 200).bind fun j5 =>
if (gI g 140 0 j5) < 0 then (
some (.inl ()))
else (
(M_endOf n x3 g).bind fun z6 =>
if z6 ≤ a3 then (
M_isReady_L7 n a1 a3 g k2 (x3 + 1))
else (
some (.inl ())))))
def M_isReady (n : Nat) (a1 : Int32) (a2 : Int32) (a3 : Int32) (g : Mem) : Option (Int32) :=
(M_first n a2 g).bind fun z1 =>
(M_isReady_L7 n a1 a3 g n z1).bind fun r7 =>
match r7 with
| .inl t8 => (
some (0 : Int32))
| .inr t9 => (
some (1 : Int32))


def M_beginOne_L19 (n : Nat) (a1 : Int32) (a2 : Int32) (g : Mem) (z1 : Int32) : Nat → Int32 → Int32 → Int32 → Option (Int32 × Int32)
| 0, _, _, _ => none
| k3 + 1, x4, x5, x6 =>
if z1 ≤ x6 then (
some (x4, x5))
else (
lt9 (fun (v11 : Int32) =>
(ix x6 200).bind fun j12 =>
if 0 ≤ (gI g 140 0 j12) then (
M_beginOne_L19 n a1 a2 g z1 k3 x4 x5 (x6 + 1))
else (
if v11 = 0 then (
M_beginOne_L19 n a1 a2 g z1 k3 x4 x5 (x6 + 1))
else (
(M_isReady n x6 a1 a2 g).bind fun z13 =>
if z13 = 0 then (
M_beginOne_L19 n a1 a2 g z1 k3 x4 x5 (x6 + 1))
else (
(M_freeUnit n x6 a1 a2 g).bind fun z14 =>
if z14 < 0 then (
M_beginOne_L19 n a1 a2 g z1 k3 x4 x5 (x6 + 1))
else (
M_beginOne_L19 n a1 a2 g z1 k3 x6 z14 (x6 + 1)))))) fun j8 =>
lt9 (fun (_u : Unit) =>
j8 (1 : Int32)) fun j7 =>
if x4 < 0 then (
j7 ())
else (
(ix x6 200).bind fun j9 =>
(ix x4 200).bind fun j10 =>
if (gI g 139 0 j9) ≤ (gI g 139 0 j10) then (
j8 (0 : Int32))
else (
j7 ())))
def M_beginOne (n : Nat) (a1 : Int32) (a2 : Int32) (g : Mem) : Option (Int32 × Mem) :=
(M_behindAll n a1 g).bind fun z1 =>
(M_first n a1 g).bind fun z2 =>
(M_beginOne_L19 n a1 a2 g z1 n (-1 : Int32) (-1 : Int32) z2).bind fun r15 =>
if 0 ≤ r15.1 then (
(ix r15.1 200).bind fun j16 =>
lt9 (sI g 140 0 j16 a2) fun g17 =>
(ix r15.1 200).bind fun j18 =>
lt9 (sI g17 141 0 j18 r15.2) fun g19 =>
some ((1 : Int32), g19))
else (
some ((0 : Int32), g))

def M_layBlock_L36 (n : Nat) (g5 : Mem) (x4 : Int32) (z2 : Int32) : Nat → Int32 → Int32 → Option (Int32)
| 0, _, _ => none
| k6 + 1, x7, x8 =>
if z2 ≤ x8 then (
some x7)
else (
(M_comesBehind n x8 x4 g5).bind fun z9 =>
if z9 = 0 then (
M_layBlock_L36 n g5 x4 z2 k6 x7 (x8 + 1))
else (
(ix x8 200).bind fun j10 =>
if (gI g5 139 0 j10) ≤ x7 then (
M_layBlock_L36 n g5 x4 z2 k6 x7 (x8 + 1))
else (
(ix x8 200).bind fun j11 =>
M_layBlock_L36 n g5 x4 z2 k6 (gI g5 139 0 j11) (x8 + 1))))
def M_layBlock_L17 (n : Nat) (z1 : Int32) (z2 : Int32) : Nat → Int32 → Mem → Option (Mem)
| 0, _, _ => none
| k3 + 1, x4, g5 =>
if x4 < z1 then (
some g5)
else (
if z1 < 0 then (
some g5)
else (
(M_layBlock_L36 n g5 x4 z2 n (0 : Int32) (x4 + (1 : Int32))).bind fun r12 =>
(M_latencyOf n x4 g5).bind fun z13 =>
(ix x4 200).bind fun j14 =>
lt9 (sI g5 139 0 j14 (z13 + r12)) fun g15 =>
(ix x4 200).bind fun j16 =>
lt9 (sI g15 140 0 j16 (-1 : Int32)) fun g17 =>
M_layBlock_L17 n z1 z2 k3 (x4 + (-1)) g17))
def M_layBlock_L136 (n : Nat) (a1 : Int32) (x23 : Int32) : Nat → Int32 → Mem → Option (Int32 × Mem)
| 0, _, _ => none
| k25 + 1, x26, g27 =>
(M_beginOne n a1 x23 g27).bind fun z28 =>
if z28.1 = 0 then (
some (x26, z28.2))
else (
M_layBlock_L136 n a1 x23 k25 (x26 + (-1)) z28.2)
def M_layBlock_L131 (n : Nat) (a1 : Int32) : Nat → Int32 → Int32 → Mem → Option (Mem)
| 0, _, _, _ => none
| k21 + 1, x22, x23, g24 =>
if x22 ≤ 0 then (
some g24)
else (
(M_layBlock_L136 n a1 x23 n x22 g24).bind fun r29 =>
M_layBlock_L131 n a1 k21 r29.1 (x23 + 1) r29.2)
def M_layBlock_L168 (n : Nat) (a1 : Int32) (z1 : Int32) (z2 : Int32) : Nat → Int32 → Mem → Option (Mem)
| 0, _, _ => none
| k33 + 1, x34, g35 =>
if z2 ≤ x34 then (
some g35)
else (
if z1 < 0 then (
some g35)
else (
(M_endOf n x34 g35).bind fun z36 =>
(ix a1 800).bind fun j37 =>
if z36 ≤ (gI g35 143 0 j37) then (
(ix a1 800).bind fun j38 =>
(ix a1 800).bind fun j39 =>
lt9 (sI g35 143 0 j39 (gI g35 143 0 j38)) fun g40 =>
M_layBlock_L168 n a1 z1 z2 k33 (x34 + 1) g40)
else (
(M_endOf n x34 g35).bind fun z41 =>
(ix a1 800).bind fun j42 =>
lt9 (sI g35 143 0 j42 z41) fun g43 =>
M_layBlock_L168 n a1 z1 z2 k33 (x34 + 1) g43)))
def M_layBlock (n : Nat) (a1 : Int32) (g : Mem) : Option (Mem) :=
(M_first n a1 g).bind fun z1 =>
(M_behindAll n a1 g).bind fun z2 =>
(M_layBlock_L17 n z1 z2 n (z2 - (1 : Int32)) g).bind fun r18 =>
lt9 (fun (v20 : Int32) =>
(M_layBlock_L131 n a1 n v20 (0 : Int32) r18).bind fun r30 =>
(ix a1 800).bind fun j31 =>
lt9 (sI r30 143 0 j31 (1 : Int32)) fun g32 =>
(M_layBlock_L168 n a1 z1 z2 n z1 g32).bind fun r44 =>
some r44) fun j19 =>
if 0 ≤ z1 then (
j19 (z2 - z1))
else (
j19 (0 : Int32))

def M_stand (n : Nat) (g : Mem) : Option (Mem) :=
if (gI g 10 0 31) ≤ 0 then (
lt9 (sI g 10 0 47 (-1 : Int32)) fun g1 =>
lt9 (sL g1 10 0 (0 : Int64)) fun g2 =>
some g2)
else (
lt9 (sI g 10 0 47 (0 : Int32)) fun g3 =>
lt9 (sL g3 10 0 (0 : Int64)) fun g4 =>
some g4)

def M_lay_L2 (n : Nat) : Nat → Int32 → Mem → Option (Mem)
| 0, _, _ => none
| k1 + 1, x2, g3 =>
if (gI g3 10 0 31) ≤ x2 then (
some g3)
else (
(M_layBlock n x2 g3).bind fun g4 =>
M_lay_L2 n k1 (x2 + 1) g4)
def M_lay (n : Nat) (g : Mem) : Option (Mem) :=
(M_lay_L2 n n (0 : Int32) g).bind fun r5 =>
(M_bindRegisters n r5).bind fun g6 =>
(M_stand n g6).bind fun g7 =>
some g7

def M_keepProgram_L18 (n : Nat) : Nat → Int32 → Mem → Option (Mem)
| 0, _, _ => none
| k3 + 1, x4, g5 =>
if (gI g5 10 0 25) ≤ x4 then (
some g5)
else (
(ix x4 200).bind fun j6 =>
(ix x4 200).bind fun j7 =>
lt9 (sI g5 126 0 j7 (gI g5 111 0 j6)) fun g8 =>
(ix x4 200).bind fun j9 =>
(ix x4 200).bind fun j10 =>
lt9 (sI g8 129 0 j10 (gI g8 114 0 j9)) fun g11 =>
(ix x4 200).bind fun j12 =>
(ix x4 200).bind fun j13 =>
lt9 (sI g11 130 0 j13 (gI g11 115 0 j12)) fun g14 =>
M_keepProgram_L18 n k3 (x4 + 1) g14)
def M_keepProgram_L70 (n : Nat) : Nat → Int32 → Mem → Option (Mem)
| 0, _, _ => none
| k16 + 1, x17, g18 =>
if ((2 : Int32) * (gI g18 10 0 25)) ≤ x17 then (
some g18)
else (
(ix x17 400).bind fun j19 =>
(ix x17 400).bind fun j20 =>
lt9 (sI g18 127 0 j20 (gI g18 112 0 j19)) fun g21 =>
(ix x17 400).bind fun j22 =>
(ix x17 400).bind fun j23 =>
lt9 (sI g21 128 0 j23 (gI g21 113 0 j22)) fun g24 =>
M_keepProgram_L70 n k16 (x17 + 1) g24)
def M_keepProgram_L112 (n : Nat) : Nat → Int32 → Mem → Option (Mem)
| 0, _, _ => none
| k26 + 1, x27, g28 =>
if (gI g28 10 0 31) ≤ x27 then (
some g28)
else (
(ix x27 800).bind fun j29 =>
(ix x27 800).bind fun j30 =>
(if gI g28 121 0 j29 = 0 ∨ gI g28 121 0 j29 = 1 then (
lt9 (sI g28 136 0 j30 (gI g28 121 0 j29)) fun g31 =>
(ix x27 800).bind fun j33 =>
(ix x27 800).bind fun j34 =>
lt9 (sI g31 132 0 j34 (gI g31 117 0 j33)) fun g35 =>
(ix x27 800).bind fun j36 =>
(ix x27 800).bind fun j37 =>
lt9 (sI g35 133 0 j37 (gI g35 118 0 j36)) fun g38 =>
(ix x27 800).bind fun j39 =>
(ix x27 800).bind fun j40 =>
lt9 (sI g38 134 0 j40 (gI g38 119 0 j39)) fun g41 =>
(ix x27 800).bind fun j42 =>
(ix x27 800).bind fun j43 =>
lt9 (sI g41 135 0 j43 (gI g41 120 0 j42)) fun g44 =>
M_keepProgram_L112 n k26 (x27 + 1) g44)
else none))
def M_keepProgram (n : Nat) (g : Mem) : Option (Mem) :=
lt9 (sI g 10 0 25 (gI g 10 0 10)) fun g1 =>
lt9 (sI g1 10 0 31 (gI g1 10 0 16)) fun g2 =>
(M_keepProgram_L18 n n (0 : Int32) g2).bind fun r15 =>
(M_keepProgram_L70 n n (0 : Int32) r15).bind fun r25 =>
(M_keepProgram_L112 n n (0 : Int32) r25).bind fun r45 =>
(M_lay n r45).bind fun g46 =>
some g46

def M_compile (n : Nat) (g : Mem) : Option (Int32 × Mem) :=
lt9 (sI g 10 0 0 (0 : Int32)) fun g1 =>
lt9 (sI g1 10 0 3 (0 : Int32)) fun g2 =>
lt9 (sI g2 10 0 4 (-1 : Int32)) fun g3 =>
lt9 (sI g3 10 0 5 (0 : Int32)) fun g4 =>
lt9 (sI g4 10 0 6 (0 : Int32)) fun g5 =>
lt9 (sI g5 10 0 7 (0 : Int32)) fun g6 =>
lt9 (sI g6 10 0 10 (0 : Int32)) fun g7 =>
lt9 (sI g7 10 0 16 (0 : Int32)) fun g8 =>
lt9 (sI g8 10 0 22 (-1 : Int32)) fun g9 =>
lt9 (sI g9 10 0 24 (0 : Int32)) fun g10 =>
lt9 (sI g10 10 0 49 (0 : Int32)) fun g11 =>
(M_statements n 15 g11).bind fun g12 =>
lt9 (fun (g16 : Mem) =>
if (gI g16 10 0 3) ≤ 0 then (
(M_leaveOpen n g16).bind fun g17 =>
(M_lead n (0 : Int32) (-1 : Int32) g17).bind fun g18 =>
(M_keepProgram n g18).bind fun g19 =>
some (gI g19 10 0 25, g19))
else (
some ((-1 : Int32), g16))) fun j13 =>
if (gI g12 10 0 3) = 0 then (
(M_next n g12).bind fun z14 =>
if z14.1 < 0 then (
j13 z14.2)
else (
(M_fail n (1 : Int32) (gI z14.2 10 0 5) z14.2).bind fun g15 =>
j13 g15))
else (
j13 g12)

def M_fault (n : Nat) (g : Mem) : Option (Int32 × Mem) :=
lt9 (sI g 10 0 0 (0 : Int32)) fun g1 =>
some (gI g1 10 0 3, g1)

def M_place (n : Nat) (g : Mem) : Option (Int32 × Mem) :=
lt9 (sI g 10 0 0 (0 : Int32)) fun g1 =>
some (gI g1 10 0 4, g1)

def M_units (n : Nat) (a1 : Int32) (a2 : Int32) (a3 : Int32) (g : Mem) : Option (Mem) :=
lt9 (fun (v4 : Int32) =>
lt9 (sI g 10 0 0 v4) fun g5 =>
if (gI g5 10 0 0) = 0 then (
(ix a1 3).bind fun j6 =>
lt9 (sI g5 137 0 j6 a2) fun g7 =>
(ix a1 4).bind fun j8 =>
lt9 (sI g7 138 0 j8 a3) fun g9 =>
(M_lay n g9).bind fun g10 =>
some g10)
else (
some g5)) fun j2 =>
lt9 (fun (_u : Unit) =>
j2 (1 : Int32)) fun j1 =>
if a1 < 0 then (
j1 ())
else (
if (2 : Int32) < a1 then (
j1 ())
else (
if a2 < (1 : Int32) then (
j1 ())
else (
if (4 : Int32) < a2 then (
j1 ())
else (
if a3 < (1 : Int32) then (
j1 ())
else (
if (4 : Int32) < a3 then (
j1 ())
else (
lt9 (fun (_u : Unit) =>
j2 (0 : Int32)) fun j3 =>
if a1 = 0 then (
if a3 = (1 : Int32) then (
j3 ())
else (
j1 ()))
else (
j3 ())))))))

def M_told_L35 (n : Nat) (g4 : Mem) : Nat → Int32 → Int32 → Option (Int32)
| 0, _, _ => none
| k5 + 1, x6, x7 =>
if (gI g4 10 0 31) ≤ x7 then (
some x6)
else (
(ix x7 800).bind fun j8 =>
M_told_L35 n g4 k5 (x6 + (gI g4 143 0 j8)) (x7 + 1))
def M_told_L63 (n : Nat) (a1 : Int32) (g4 : Mem) : Nat → Int32 → Int32 → Option (Int32)
| 0, _, _ => none
| k10 + 1, x11, x12 =>
if (gI g4 10 0 25) ≤ x12 then (
some x11)
else (
lt9 (fun (v18 : Int32) =>
if v18 ≤ x11 then (
M_told_L63 n a1 g4 k10 x11 (x12 + 1))
else (
M_told_L63 n a1 g4 k10 v18 (x12 + 1))) fun j13 =>
if a1 = (2 : Int32) then (
(ix x12 200).bind fun j17 =>
j13 ((gI g4 142 0 j17) + (1 : Int32)))
else (
(ix x12 200).bind fun j14 =>
(M_kindOf n (gI g4 126 0 j14)).bind fun z15 =>
if z15 = (a1 - (3 : Int32)) then (
(ix x12 200).bind fun j16 =>
j13 ((gI g4 141 0 j16) + (1 : Int32)))
else (
j13 (0 : Int32))))
def M_told (n : Nat) (a1 : Int32) (g : Mem) : Option (Int32 × Mem) :=
lt9 (fun (v3 : Int32) =>
lt9 (sI g 10 0 0 v3) fun g4 =>
if (gI g4 10 0 0) ≤ 0 then (
(M_told_L35 n g4 n (0 : Int32) (0 : Int32)).bind fun r9 =>
(M_told_L63 n a1 g4 n (0 : Int32) (0 : Int32)).bind fun r19 =>
if a1 = 0 then (
some (gI g4 10 0 31, g4))
else (
if a1 = (1 : Int32) then (
some (r9, g4))
else (
some (r19, g4))))
else (
some ((0 : Int32), g4))) fun j2 =>
lt9 (fun (_u : Unit) =>
j2 (1 : Int32)) fun j1 =>
if a1 < 0 then (
j1 ())
else (
if a1 ≤ (6 : Int32) then (
j2 (0 : Int32))
else (
j1 ()))

def M_block (n : Nat) (a1 : Int32) (a2 : Int32) (g : Mem) : Option (Int32 × Mem) :=
lt9 (fun (v4 : Int32) =>
lt9 (sI g 10 0 0 v4) fun g5 =>
if (gI g5 10 0 0) ≤ 0 then (
(M_first n a1 g5).bind fun z6 =>
if a2 = 0 then (
(ix a1 800).bind fun j10 =>
some (gI g5 143 0 j10, g5))
else (
if a2 = (1 : Int32) then (
some (z6, g5))
else (
if a2 = (2 : Int32) then (
if 0 ≤ z6 then (
(M_behindAll n a1 g5).bind fun z9 =>
some (z9 - z6, g5))
else (
some ((0 : Int32), g5)))
else (
if a2 = (3 : Int32) then (
(ix a1 800).bind fun j8 =>
some (gI g5 134 0 j8, g5))
else (
(ix a1 800).bind fun j7 =>
some (gI g5 135 0 j7, g5))))))
else (
some ((0 : Int32), g5))) fun j2 =>
lt9 (fun (_u : Unit) =>
j2 (1 : Int32)) fun j1 =>
if a1 < 0 then (
j1 ())
else (
if a1 < (gI g 10 0 31) then (
lt9 (fun (_u : Unit) =>
j2 (2 : Int32)) fun j3 =>
if a2 < 0 then (
j3 ())
else (
if a2 ≤ (4 : Int32) then (
j2 (0 : Int32))
else (
j3 ())))
else (
j1 ()))

def M_operation (n : Nat) (a1 : Int32) (a2 : Int32) (g : Mem) : Option (Int32 × Mem) :=
lt9 (fun (v4 : Int32) =>
lt9 (sI g 10 0 0 v4) fun g5 =>
if (gI g5 10 0 0) ≤ 0 then (
if a2 = 0 then (
(ix a1 200).bind fun j11 =>
(M_kindOf n (gI g5 126 0 j11)).bind fun z12 =>
some (z12, g5))
else (
if a2 = (1 : Int32) then (
(ix a1 200).bind fun j10 =>
some (gI g5 130 0 j10, g5))
else (
if a2 = (2 : Int32) then (
(ix a1 200).bind fun j9 =>
some (gI g5 140 0 j9, g5))
else (
if a2 = (3 : Int32) then (
(ix a1 200).bind fun j8 =>
some (gI g5 139 0 j8, g5))
else (
if a2 = (4 : Int32) then (
(ix a1 200).bind fun j7 =>
some (gI g5 141 0 j7, g5))
else (
(ix a1 200).bind fun j6 =>
some (gI g5 142 0 j6, g5)))))))
else (
some ((0 : Int32), g5))) fun j2 =>
lt9 (fun (_u : Unit) =>
j2 (1 : Int32)) fun j1 =>
if a1 < 0 then (
j1 ())
else (
if a1 < (gI g 10 0 25) then (
lt9 (fun (_u : Unit) =>
j2 (2 : Int32)) fun j3 =>
if a2 < 0 then (
j3 ())
else (
if a2 ≤ (5 : Int32) then (
j2 (0 : Int32))
else (
j3 ())))
else (
j1 ()))

def M_set (n : Nat) (a1 : Int32) (a2 : Int32) (g : Mem) : Option (Int32 × Mem) :=
lt9 (fun (v3 : Int32) =>
lt9 (sI g 10 0 0 v3) fun g4 =>
if (gI g4 10 0 0) ≤ 0 then (
(ix a1 8).bind fun j5 =>
(ix a1 8).bind fun j6 =>
lt9 (sI g4 144 0 j6 a2) fun g7 =>
some (gI g4 144 0 j5, g7))
else (
some ((0 : Int32), g4))) fun j2 =>
lt9 (fun (_u : Unit) =>
j2 (1 : Int32)) fun j1 =>
if a1 < 0 then (
j1 ())
else (
if a1 ≤ (7 : Int32) then (
j2 (0 : Int32))
else (
j1 ()))

def M_get (n : Nat) (a1 : Int32) (g : Mem) : Option (Int32 × Mem) :=
lt9 (fun (v3 : Int32) =>
lt9 (sI g 10 0 0 v3) fun g4 =>
if (gI g4 10 0 0) ≤ 0 then (
(ix a1 8).bind fun j5 =>
some (gI g4 144 0 j5, g4))
else (
some ((0 : Int32), g4))) fun j2 =>
lt9 (fun (_u : Unit) =>
j2 (1 : Int32)) fun j1 =>
if a1 < 0 then (
j1 ())
else (
if a1 ≤ (7 : Int32) then (
j2 (0 : Int32))
else (
j1 ()))

def M_poke (n : Nat) (a1 : Int32) (a2 : Int32) (g : Mem) : Option (Int32 × Mem) :=
lt9 (fun (v3 : Int32) =>
lt9 (sI g 10 0 0 v3) fun g4 =>
if (gI g4 10 0 0) ≤ 0 then (
(ix a1 16).bind fun j5 =>
(ix a1 16).bind fun j6 =>
lt9 (sI g4 145 0 j6 a2) fun g7 =>
some (gI g4 145 0 j5, g7))
else (
some ((0 : Int32), g4))) fun j2 =>
lt9 (fun (_u : Unit) =>
j2 (1 : Int32)) fun j1 =>
if a1 < 0 then (
j1 ())
else (
if a1 ≤ (15 : Int32) then (
j2 (0 : Int32))
else (
j1 ()))

def M_peek (n : Nat) (a1 : Int32) (g : Mem) : Option (Int32 × Mem) :=
lt9 (fun (v3 : Int32) =>
lt9 (sI g 10 0 0 v3) fun g4 =>
if (gI g4 10 0 0) ≤ 0 then (
(ix a1 16).bind fun j5 =>
some (gI g4 145 0 j5, g4))
else (
some ((0 : Int32), g4))) fun j2 =>
lt9 (fun (_u : Unit) =>
j2 (1 : Int32)) fun j1 =>
if a1 < 0 then (
j1 ())
else (
if a1 ≤ (15 : Int32) then (
j2 (0 : Int32))
else (
j1 ()))

def M_restart (n : Nat) (g : Mem) : Option (Mem) :=
lt9 (sI g 10 0 0 (0 : Int32)) fun g1 =>
(M_stand n g1).bind fun g2 =>
some g2

def M_look (n : Nat) (a1 : Int32) (a2 : Int32) (g : Mem) : Option (Int32) :=
if a1 = (1 : Int32) then (
some a2)
else (
if a1 = (2 : Int32) then (
(ix a2 8).bind fun j2 =>
some (gI g 144 0 j2))
else (
if a1 = (3 : Int32) then (
(ix a2 200).bind fun j1 =>
some (gI g 146 0 j1))
else (
some (0 : Int32))))

def M_doOperation (n : Nat) (a1 : Int32) (g : Mem) : Option (Mem) :=
(ix ((2 : Int32) * a1) 400).bind fun j1 =>
(ix ((2 : Int32) * a1) 400).bind fun j2 =>
(M_look n (gI g 127 0 j1) (gI g 128 0 j2) g).bind fun z3 =>
(ix (((2 : Int32) * a1) + (1 : Int32)) 400).bind fun j4 =>
(ix (((2 : Int32) * a1) + (1 : Int32)) 400).bind fun j5 =>
(M_look n (gI g 127 0 j4) (gI g 128 0 j5) g).bind fun z6 =>
(ix a1 200).bind fun j7 =>
lt9 (fun (g30 : Mem) =>
(ix a1 200).bind fun j31 =>
if (gI g30 129 0 j31) < 0 then (
some g30)
else (
(ix a1 200).bind fun j32 =>
(ix a1 200).bind fun j33 =>
(ix (gI g30 129 0 j32) 8).bind fun j34 =>
lt9 (sI g30 144 0 j34 (gI g30 146 0 j33)) fun g35 =>
some g35)) fun j8 =>
if gI g 126 0 j7 = 0 then (
(ix a1 200).bind fun j9 =>
lt9 (sI g 146 0 j9 (z3 + z6)) fun g10 =>
j8 g10)
else (
if gI g 126 0 j7 = 1 then (
(ix a1 200).bind fun j11 =>
lt9 (sI g 146 0 j11 (z3 - z6)) fun g12 =>
j8 g12)
else (
if gI g 126 0 j7 = 2 then (
(ix a1 200).bind fun j13 =>
lt9 (sI g 146 0 j13 (z3 * z6)) fun g14 =>
j8 g14)
else (
if gI g 126 0 j7 = 3 then (
lt9 (fun (v16 : Int32) =>
(ix a1 200).bind fun j17 =>
lt9 (sI g 146 0 j17 v16) fun g18 =>
j8 g18) fun j15 =>
if z6 ≤ z3 then (
j15 (0 : Int32))
else (
j15 (1 : Int32)))
else (
if gI g 126 0 j7 = 4 then (
lt9 (fun (v20 : Int32) =>
(ix a1 200).bind fun j21 =>
lt9 (sI g 146 0 j21 v20) fun g22 =>
j8 g22) fun j19 =>
if z3 = z6 then (
j19 (1 : Int32))
else (
j19 (0 : Int32)))
else (
if gI g 126 0 j7 = 5 then (
(ix (z3 &&& (15 : Int32)) 16).bind fun j23 =>
(ix a1 200).bind fun j24 =>
lt9 (sI g 146 0 j24 (gI g 145 0 j23)) fun g25 =>
j8 g25)
else (
if gI g 126 0 j7 = 6 then (
(ix (z3 &&& (15 : Int32)) 16).bind fun j26 =>
lt9 (sI g 145 0 j26 z6) fun g27 =>
j8 g27)
else (
(ix a1 200).bind fun j28 =>
lt9 (sI g 146 0 j28 z3) fun g29 =>
j8 g29)))))))

def M_run_L43 (n : Nat) : Nat → Int32 → Mem → Option (Mem)
| 0, _, _ => none
| k8 + 1, x9, g10 =>
if (gI g10 10 0 25) ≤ x9 then (
some g10)
else (
(ix x9 200).bind fun j11 =>
if (gI g10 130 0 j11) = (gI g10 10 0 47) then (
(M_doOperation n x9 g10).bind fun g12 =>
M_run_L43 n k8 (x9 + 1) g12)
else (
M_run_L43 n k8 (x9 + 1) g10))
def M_run_L22 (n : Nat) (a1 : Int32) : Nat → Int32 → Mem → Option (Int32 × Mem)
| 0, _, _ => none
| k5 + 1, x6, g7 =>
if (gI g7 10 0 0) = 0 then (
if (gI g7 10 0 47) < 0 then (
some (x6, g7))
else (
if a1 ≤ x6 then (
some (x6, g7))
else (
(M_run_L43 n n (0 : Int32) g7).bind fun r13 =>
(ix (gI r13 10 0 47) 800).bind fun j14 =>
(ix (gI r13 10 0 47) 800).bind fun j15 =>
lt9 (fun (v21 : Int32) =>
if v21 = 0 then (
(ix (gI r13 10 0 47) 800).bind fun j22 =>
lt9 (sI r13 10 0 47 (gI r13 135 0 j22)) fun g23 =>
M_run_L22 n a1 k5 (x6 + (gI r13 143 0 j14)) g23)
else (
(ix (gI r13 10 0 47) 800).bind fun j24 =>
lt9 (sI r13 10 0 47 (gI r13 134 0 j24)) fun g25 =>
M_run_L22 n a1 k5 (x6 + (gI r13 143 0 j14)) g25)) fun j17 =>
lt9 (fun (_u : Unit) =>
j17 (1 : Int32)) fun j16 =>
if (gI r13 136 0 j15) = 0 then (
j16 ())
else (
(ix (gI r13 10 0 47) 800).bind fun j18 =>
(ix (gI r13 10 0 47) 800).bind fun j19 =>
(M_look n (gI r13 132 0 j18) (gI r13 133 0 j19) r13).bind fun z20 =>
if z20 = 0 then (
j17 (0 : Int32))
else (
j16 ())))))
else (
some (x6, g7))
def M_run (n : Nat) (a1 : Int32) (g : Mem) : Option (Int32 × Mem) :=
lt9 (fun (v3 : Int32) =>
lt9 (sI g 10 0 0 v3) fun g4 =>
(M_run_L22 n a1 n (0 : Int32) g4).bind fun r26 =>
lt9 (sL r26.2 10 0 ((gL r26.2 10 0) + r26.1.toInt64)) fun g27 =>
some (r26.1, g27)) fun j2 =>
lt9 (fun (_u : Unit) =>
j2 (1 : Int32)) fun j1 =>
if a1 < 0 then (
j1 ())
else (
if a1 ≤ (5000 : Int32) then (
j2 (0 : Int32))
else (
j1 ()))

def M_at (n : Nat) (g : Mem) : Option (Int32 × Mem) :=
lt9 (sI g 10 0 0 (0 : Int32)) fun g1 =>
some (gI g1 10 0 47, g1)

def M_cycles (n : Nat) (g : Mem) : Option (Int64 × Mem) :=
lt9 (sI g 10 0 0 (0 : Int32)) fun g1 =>
some (gL g1 10 0, g1)
end
section
/-! contracts (printed by program) -/
set_option maxHeartbeats 4000000 in
set_option maxRecDepth 100000 in
theorem c_Bk_become (l : Launch) (D : va_G) (X : va_W) (E : gE) (n : Nat) (b0 : Nat) (a1 : Int32) (hv_b0 : b0 < 350) (g : Mem) (g' : Mem) (hf : Bk_become n b0 a1 g = some g') : gMet l yX0_become cX0_become 2 none 0 0 D X idsC E [.ref (E.1 0 b0), .int a1] g none g' := by
  rw [Bk_become] at hf
  refine gt_code (by decide) (Nat.le_of_ble_eq_true rfl) (fun p en s m below meth c ls G hr hk hw hl => ?_)
  have hl : lv_has ls 2 [(0, .ref (E.1 0 b0)), (1, .int a1)] := hl
  refine lv_aload_n G.1 G.2.1 dX0_become_0 rfl (lv_at hl 0 rfl) ?_
  refine lv_iload_n G.1 G.2.1 dX0_become_1 rfl (lv_at hl 1 rfl) ?_
  obtain ⟨g1, eg1, hf⟩ := lt9_some hf
  refine g_putI G hw C_0 (iC_0 hv_b0) 0 rfl fl_X0_9 rfl rfl rfl dX0_become_2 (fun H locs hw => ?_)
  rw [← eg1] at hw
  refine lv_aload_n G.1 G.2.1 dX0_become_5 rfl (lv_at hl 0 rfl) ?_
  refine lv_iconst (v := (0 : Int32)) G.1 G.2.1 dX0_become_6 (by decide) ?_
  obtain ⟨g2, eg2, hf⟩ := lt9_some hf
  refine g_putI G hw C_0 (iC_0 hv_b0) 1 rfl fl_X0_15 rfl rfl rfl dX0_become_7 (fun H locs hw => ?_)
  rw [← eg2] at hw
  refine lv_aload_n G.1 G.2.1 dX0_become_10 rfl (lv_at hl 0 rfl) ?_
  refine lv_iconst (v := (0 : Int32)) G.1 G.2.1 dX0_become_11 (by decide) ?_
  obtain ⟨g3, eg3, hf⟩ := lt9_some hf
  refine g_putI G hw C_0 (iC_0 hv_b0) 2 rfl fl_X0_18 rfl rfl rfl dX0_become_12 (fun H locs hw => ?_)
  rw [← eg3] at hw
  refine lv_aload_n G.1 G.2.1 dX0_become_15 rfl (lv_at hl 0 rfl) ?_
  refine lv_iconst (v := (0 : Int32)) G.1 G.2.1 dX0_become_16 (by decide) ?_
  obtain ⟨g4, eg4, hf⟩ := lt9_some hf
  refine g_putI G hw C_0 (iC_0 hv_b0) 3 rfl fl_X0_24 rfl rfl rfl dX0_become_17 (fun H locs hw => ?_)
  rw [← eg4] at hw
  refine lv_aload_n G.1 G.2.1 dX0_become_20 rfl (lv_at hl 0 rfl) ?_
  refine lv_iconst (v := (-1 : Int32)) G.1 G.2.1 dX0_become_21 (by decide) ?_
  obtain ⟨g5, eg5, hf⟩ := lt9_some hf
  refine g_putI G hw C_0 (iC_0 hv_b0) 4 rfl fl_X0_27 rfl rfl rfl dX0_become_22 (fun H locs hw => ?_)
  rw [← eg5] at hw
  refine lv_aload_n G.1 G.2.1 dX0_become_25 rfl (lv_at hl 0 rfl) ?_
  refine lv_iconst (v := (-1 : Int32)) G.1 G.2.1 dX0_become_26 (by decide) ?_
  obtain ⟨g6, eg6, hf⟩ := lt9_some hf
  refine g_putI G hw C_0 (iC_0 hv_b0) 5 rfl fl_X0_30 rfl rfl rfl dX0_become_27 (fun H locs hw => ?_)
  rw [← eg6] at hw
  exact g_vretW G hr hk hf hw dX0_become_30

set_option maxHeartbeats 4000000 in
set_option maxRecDepth 100000 in
theorem c_Op_end (l : Launch) (D : va_G) (X : va_W) (E : gE) (n : Nat) (o0 : Nat) (hv_o0 : o0 < 400) (g : Mem) (r : Int32) (hf : Op_end n o0 g = some r) : gMet l yX4_end cX4_end 1 (some .int) 0 0 D X idsC E [.ref (E.1 3 o0)] g (some (.int r)) g := by
  rw [Op_end] at hf
  refine gt_code (by decide) (Nat.le_of_ble_eq_true rfl) (fun p en s m below meth c ls G hr hk hw hl => ?_)
  have hl : lv_has ls 1 [(0, .ref (E.1 3 o0))] := hl
  refine lv_aload_n G.1 G.2.1 dX4_end_0 rfl (lv_at hl 0 rfl) ?_
  refine g_getI G hw C_3 (iC_3 hv_o0) 9 rfl fl_X4_31 dX4_end_1 ?_
  refine lv_aload_n G.1 G.2.1 dX4_end_4 rfl (lv_at hl 0 rfl) ?_
  refine g_getI G hw C_3 (iC_3 hv_o0) 7 rfl fl_X4_34 dX4_end_5 ?_
  refine lv_iadd G.1 G.2.1 dX4_end_8 ?_
  exact g_iretR G hr hk hf hw dX4_end_9

set_option maxHeartbeats 4000000 in
set_option maxRecDepth 100000 in
theorem c_Op_hasBegun (l : Launch) (D : va_G) (X : va_W) (E : gE) (n : Nat) (o0 : Nat) (hv_o0 : o0 < 400) (g : Mem) (r : Int32) (hf : Op_hasBegun n o0 g = some r) : gMet l yX4_hasBegun cX4_hasBegun 1 (some .boolean) 0 0 D X idsC E [.ref (E.1 3 o0)] g (some (.int r)) g := by
  rw [Op_hasBegun] at hf
  refine gt_code (by decide) (Nat.le_of_ble_eq_true rfl) (fun p en s m below meth c ls G hr hk hw hl => ?_)
  have hl : lv_has ls 1 [(0, .ref (E.1 3 o0))] := hl
  refine lv_aload_n G.1 G.2.1 dX4_hasBegun_0 rfl (lv_at hl 0 rfl) ?_
  refine g_getI G hw C_3 (iC_3 hv_o0) 9 rfl fl_X4_31 dX4_hasBegun_1 ?_
  refine lv_iconst (v := (-1 : Int32)) G.1 G.2.1 dX4_hasBegun_4 (by decide) ?_
  refine lv_icmp_eq (tgt := 12) G.1 G.2.1 dX4_hasBegun_5 (by decide) (fun hc5 => ?_) (fun hc5 => ?_)
  · rw [if_pos hc5] at hf
    refine lv_iconst (v := (0 : Int32)) G.1 G.2.1 dX4_hasBegun_12 (by decide) ?_
    exact g_zretR G hr rfl hk hf hw dX4_hasBegun_13
  · rw [if_neg hc5] at hf
    refine lv_iconst (v := (1 : Int32)) G.1 G.2.1 dX4_hasBegun_8 (by decide) ?_
    refine lv_goto (tgt := 13) G.1 G.2.1 dX4_hasBegun_9 (by decide) ?_
    exact g_zretR G hr rfl hk hf hw dX4_hasBegun_13

set_option maxHeartbeats 4000000 in
set_option maxRecDepth 100000 in
theorem c_Od_ofValue (l : Launch) (D : va_G) (X : va_W) (E : gE) (n : Nat) (a1 : Int32) (g : Mem) (r : Int32) (hf : Od_ofValue n a1 = some r) : gMet l yX3_ofValue cX3_ofValue 1 (some .int) 0 0 D X idsC E [.int a1] g (some (.int r)) g := by
  rw [Od_ofValue] at hf
  refine gt_code (by decide) (Nat.le_of_ble_eq_true rfl) (fun p en s m below meth c ls G hr hk hw hl => ?_)
  have hl : lv_has ls 1 [(0, .int a1)] := hl
  refine lv_bipush (v := (-9 : Int32)) G.1 G.2.1 dX3_ofValue_0 (by decide) ?_
  refine lv_iload_n G.1 G.2.1 dX3_ofValue_2 rfl (lv_at hl 0 rfl) ?_
  refine lv_isub G.1 G.2.1 dX3_ofValue_3 ?_
  exact g_iretR G hr hk hf hw dX3_ofValue_4

set_option maxHeartbeats 4000000 in
set_option maxRecDepth 100000 in
theorem c_Od_ofVariable (l : Launch) (D : va_G) (X : va_W) (E : gE) (n : Nat) (a1 : Int32) (g : Mem) (r : Int32) (hf : Od_ofVariable n a1 = some r) : gMet l yX3_ofVariable cX3_ofVariable 1 (some .int) 0 0 D X idsC E [.int a1] g (some (.int r)) g := by
  rw [Od_ofVariable] at hf
  refine gt_code (by decide) (Nat.le_of_ble_eq_true rfl) (fun p en s m below meth c ls G hr hk hw hl => ?_)
  have hl : lv_has ls 1 [(0, .int a1)] := hl
  refine lv_iconst (v := (-1 : Int32)) G.1 G.2.1 dX3_ofVariable_0 (by decide) ?_
  refine lv_iload_n G.1 G.2.1 dX3_ofVariable_1 rfl (lv_at hl 0 rfl) ?_
  refine lv_isub G.1 G.2.1 dX3_ofVariable_2 ?_
  exact g_iretR G hr hk hf hw dX3_ofVariable_3

set_option maxHeartbeats 4000000 in
set_option maxRecDepth 100000 in
theorem c_Op_uses (l : Launch) (D : va_G) (X : va_W) (E : gE) (n : Nat) (o0 : Nat) (a1 : Int32) (hv_o0 : o0 < 400) (g : Mem) (r : Int32) (hf : Op_uses n o0 a1 g = some r) : gMet l yX4_uses cX4_uses 2 (some .boolean) 0 0 D X idsC E [.ref (E.1 3 o0), .int a1] g (some (.int r)) g := by
  rw [Op_uses] at hf
  refine gt_code (by decide) (Nat.le_of_ble_eq_true rfl) (fun p en s m below meth c ls G hr hk hw hl => ?_)
  have hl : lv_has ls 2 [(0, .ref (E.1 3 o0)), (1, .int a1)] := hl
  refine lv_aload_n G.1 G.2.1 dX4_uses_0 rfl (lv_at hl 0 rfl) ?_
  refine g_getI G hw C_3 (iC_3 hv_o0) 3 rfl fl_X4_15 dX4_uses_1 ?_
  refine lv_iload_n G.1 G.2.1 dX4_uses_4 rfl (lv_at hl 1 rfl) ?_
  refine lv_icmp_eq (tgt := 16) G.1 G.2.1 dX4_uses_5 (by decide) (fun hc5 => ?_) (fun hc5 => ?_)
  · rw [if_pos hc5] at hf
    refine lv_iconst (v := (1 : Int32)) G.1 G.2.1 dX4_uses_16 (by decide) ?_
    refine lv_goto (tgt := 21) G.1 G.2.1 dX4_uses_17 (by decide) ?_
    exact g_zretR G hr rfl hk hf hw dX4_uses_21
  · rw [if_neg hc5] at hf
    refine lv_aload_n G.1 G.2.1 dX4_uses_8 rfl (lv_at hl 0 rfl) ?_
    refine g_getI G hw C_3 (iC_3 hv_o0) 4 rfl fl_X4_18 dX4_uses_9 ?_
    refine lv_iload_n G.1 G.2.1 dX4_uses_12 rfl (lv_at hl 1 rfl) ?_
    refine lv_icmp_ne (tgt := 20) G.1 G.2.1 dX4_uses_13 (by decide) (fun hc13 => ?_) (fun hc13 => ?_)
    · rw [if_neg hc13] at hf
      refine lv_iconst (v := (0 : Int32)) G.1 G.2.1 dX4_uses_20 (by decide) ?_
      exact g_zretR G hr rfl hk hf hw dX4_uses_21
    · rw [if_pos hc13] at hf
      refine lv_iconst (v := (1 : Int32)) G.1 G.2.1 dX4_uses_16 (by decide) ?_
      refine lv_goto (tgt := 21) G.1 G.2.1 dX4_uses_17 (by decide) ?_
      exact g_zretR G hr rfl hk hf hw dX4_uses_21

set_option maxHeartbeats 4000000 in
set_option maxRecDepth 100000 in
theorem c_Op_usesGiven (l : Launch) (D : va_G) (X : va_W) (E : gE) (n : Nat) (o0 : Nat) (o1 : Nat) (hv_o0 : o0 < 400) (hv_o1 : o1 < 400) (g : Mem) (r : Int32) (hf : Op_usesGiven n o0 o1 g = some r) : gMet l yX4_usesGiven cX4_usesGiven 2 (some .boolean) 1 21 D X idsC E [.ref (E.1 3 o0), .ref (E.1 3 o1)] g (some (.int r)) g := by
  rw [Op_usesGiven] at hf
  refine gt_code (by decide) (Nat.le_of_ble_eq_true rfl) (fun p en s m below meth c ls G hr hk hw hl => ?_)
  have hl : lv_has ls 2 [(0, .ref (E.1 3 o0)), (1, .ref (E.1 3 o1))] := hl
  refine lv_aload_n G.1 G.2.1 dX4_usesGiven_0 rfl (lv_at hl 1 rfl) ?_
  refine g_getI G hw C_3 (iC_3 hv_o1) 5 rfl fl_X4_28 dX4_usesGiven_1 ?_
  refine lv_iconst (v := (-1 : Int32)) G.1 G.2.1 dX4_usesGiven_4 (by decide) ?_
  refine lv_icmp_eq (tgt := 26) G.1 G.2.1 dX4_usesGiven_5 (by decide) (fun hc5 => ?_) (fun hc5 => ?_)
  · rw [if_pos hc5] at hf
    refine lv_iconst (v := (0 : Int32)) G.1 G.2.1 dX4_usesGiven_26 (by decide) ?_
    exact g_zretR G hr rfl hk hf hw dX4_usesGiven_27
  · rw [if_neg hc5] at hf
    refine lv_aload_n G.1 G.2.1 dX4_usesGiven_8 rfl (lv_at hl 0 rfl) ?_
    refine lv_aload_n G.1 G.2.1 dX4_usesGiven_9 rfl (lv_at hl 1 rfl) ?_
    refine g_getI G hw C_3 (iC_3 hv_o1) 5 rfl fl_X4_28 dX4_usesGiven_10 ?_
    obtain ⟨z1, hcz1, hf⟩ := bd_some hf
    refine g_callS1 (As := [.int (gI g 3 o1 5)]) (rest := [.ref (E.1 3 o0)]) G hw (gA_mono hw.2.2.2.1.1)  ms_X4_56 (c_Od_ofVariable l D X E n (gI g 3 o1 5) g z1 hcz1) hl.1 rfl rfl (Nat.le_of_ble_eq_true rfl) (Nat.le_of_ble_eq_true rfl) (Nat.le_of_ble_eq_true rfl) ⟨Nat.le_refl _, Nat.le_refl _⟩ dX4_usesGiven_13 (fun H locs hw => ?_)
    obtain ⟨z2, hcz2, hf⟩ := bd_some hf
    refine g_callV1 (As := [.int z1]) (rest := []) G hw (gA_mono hw.2.2.2.1.1) C_3 (iC_3 hv_o0) mv_X4_45 (c_Op_uses l D X E n o0 z1 hv_o0 g z2 hcz2) hl.1 rfl rfl (Nat.le_of_ble_eq_true rfl) (Nat.le_of_ble_eq_true rfl) (Nat.le_of_ble_eq_true rfl) ⟨Nat.le_refl _, Nat.le_refl _⟩ dX4_usesGiven_16 (fun H locs hw => ?_)
    refine lv_if_eq (tgt := 26) G.1 G.2.1 dX4_usesGiven_19 (by decide) (fun hc19 => ?_) (fun hc19 => ?_)
    · rw [if_pos hc19] at hf
      refine lv_iconst (v := (0 : Int32)) G.1 G.2.1 dX4_usesGiven_26 (by decide) ?_
      exact g_zretR G hr rfl hk hf hw dX4_usesGiven_27
    · rw [if_neg hc19] at hf
      refine lv_iconst (v := (1 : Int32)) G.1 G.2.1 dX4_usesGiven_22 (by decide) ?_
      refine lv_goto (tgt := 27) G.1 G.2.1 dX4_usesGiven_23 (by decide) ?_
      exact g_zretR G hr rfl hk hf hw dX4_usesGiven_27

set_option maxHeartbeats 4000000 in
set_option maxRecDepth 100000 in
theorem c_Op_touchesGiven (l : Launch) (D : va_G) (X : va_W) (E : gE) (n : Nat) (o0 : Nat) (o1 : Nat) (hv_o0 : o0 < 400) (hv_o1 : o1 < 400) (g : Mem) (r : Int32) (hf : Op_touchesGiven n o0 o1 g = some r) : gMet l yX4_touchesGiven cX4_touchesGiven 2 (some .boolean) 2 42 D X idsC E [.ref (E.1 3 o0), .ref (E.1 3 o1)] g (some (.int r)) g := by
  rw [Op_touchesGiven] at hf
  refine gt_code (by decide) (Nat.le_of_ble_eq_true rfl) (fun p en s m below meth c ls G hr hk hw hl => ?_)
  have hl : lv_has ls 2 [(0, .ref (E.1 3 o0)), (1, .ref (E.1 3 o1))] := hl
  refine lv_aload_n G.1 G.2.1 dX4_touchesGiven_0 rfl (lv_at hl 0 rfl) ?_
  refine lv_aload_n G.1 G.2.1 dX4_touchesGiven_1 rfl (lv_at hl 1 rfl) ?_
  obtain ⟨z1, hcz1, hf⟩ := bd_some hf
  refine g_callV1 (As := [.ref (E.1 3 o1)]) (rest := []) G hw (gA_mono hw.2.2.2.1.1) C_3 (iC_3 hv_o0) mv_X4_53 (c_Op_usesGiven l D X E n o0 o1 hv_o0 hv_o1 g z1 hcz1) hl.1 rfl rfl (Nat.le_of_ble_eq_true rfl) (Nat.le_of_ble_eq_true rfl) (Nat.le_of_ble_eq_true rfl) ⟨Nat.le_refl _, Nat.le_refl _⟩ dX4_touchesGiven_2 (fun H locs hw => ?_)
  refine lv_if_ne (tgt := 27) G.1 G.2.1 dX4_touchesGiven_5 (by decide) (fun hc5 => ?_) (fun hc5 => ?_)
  · rw [if_neg hc5] at hf
    refine lv_iconst (v := (1 : Int32)) G.1 G.2.1 dX4_touchesGiven_27 (by decide) ?_
    refine lv_goto (tgt := 32) G.1 G.2.1 dX4_touchesGiven_28 (by decide) ?_
    exact g_zretR G hr rfl hk hf hw dX4_touchesGiven_32
  · rw [if_pos hc5] at hf
    refine lv_aload_n G.1 G.2.1 dX4_touchesGiven_8 rfl (lv_at hl 0 rfl) ?_
    refine g_getI G hw C_3 (iC_3 hv_o0) 5 rfl fl_X4_28 dX4_touchesGiven_9 ?_
    refine lv_iconst (v := (-1 : Int32)) G.1 G.2.1 dX4_touchesGiven_12 (by decide) ?_
    refine lv_icmp_eq (tgt := 31) G.1 G.2.1 dX4_touchesGiven_13 (by decide) (fun hc13 => ?_) (fun hc13 => ?_)
    · rw [if_pos hc13] at hf
      refine lv_iconst (v := (0 : Int32)) G.1 G.2.1 dX4_touchesGiven_31 (by decide) ?_
      exact g_zretR G hr rfl hk hf hw dX4_touchesGiven_32
    · rw [if_neg hc13] at hf
      refine lv_aload_n G.1 G.2.1 dX4_touchesGiven_16 rfl (lv_at hl 0 rfl) ?_
      refine g_getI G hw C_3 (iC_3 hv_o0) 5 rfl fl_X4_28 dX4_touchesGiven_17 ?_
      refine lv_aload_n G.1 G.2.1 dX4_touchesGiven_20 rfl (lv_at hl 1 rfl) ?_
      refine g_getI G hw C_3 (iC_3 hv_o1) 5 rfl fl_X4_28 dX4_touchesGiven_21 ?_
      refine lv_icmp_ne (tgt := 31) G.1 G.2.1 dX4_touchesGiven_24 (by decide) (fun hc24 => ?_) (fun hc24 => ?_)
      · rw [if_neg hc24] at hf
        refine lv_iconst (v := (0 : Int32)) G.1 G.2.1 dX4_touchesGiven_31 (by decide) ?_
        exact g_zretR G hr rfl hk hf hw dX4_touchesGiven_32
      · rw [if_pos hc24] at hf
        refine lv_iconst (v := (1 : Int32)) G.1 G.2.1 dX4_touchesGiven_27 (by decide) ?_
        refine lv_goto (tgt := 32) G.1 G.2.1 dX4_touchesGiven_28 (by decide) ?_
        exact g_zretR G hr rfl hk hf hw dX4_touchesGiven_32

set_option maxHeartbeats 4000000 in
set_option maxRecDepth 100000 in
theorem c_Op_comesBehind (l : Launch) (D : va_G) (X : va_W) (E : gE) (n : Nat) (o0 : Nat) (o1 : Nat) (hv_o0 : o0 < 400) (hv_o1 : o1 < 400) (g : Mem) (r : Int32) (hf : Op_comesBehind n o0 o1 g = some r) : gMet l yX4_comesBehind cX4_comesBehind 2 (some .boolean) 3 63 D X idsC E [.ref (E.1 3 o0), .ref (E.1 3 o1)] g (some (.int r)) g := by
  rw [Op_comesBehind] at hf
  refine gt_code (by decide) (Nat.le_of_ble_eq_true rfl) (fun p en s m below meth c ls G hr hk hw hl => ?_)
  have hl : lv_has ls 2 [(0, .ref (E.1 3 o0)), (1, .ref (E.1 3 o1))] := hl
  refine lv_aload_n G.1 G.2.1 dX4_comesBehind_0 rfl (lv_at hl 0 rfl) ?_
  refine lv_aload_n G.1 G.2.1 dX4_comesBehind_1 rfl (lv_at hl 1 rfl) ?_
  refine g_getI G hw C_3 (iC_3 hv_o1) 0 rfl fl_X4_37 dX4_comesBehind_2 ?_
  obtain ⟨z1, hcz1, hf⟩ := bd_some hf
  refine g_callS1 (As := [.int (gI g 3 o1 0)]) (rest := [.ref (E.1 3 o0)]) G hw (gA_mono hw.2.2.2.1.1)  ms_X4_40 (c_Od_ofValue l D X E n (gI g 3 o1 0) g z1 hcz1) hl.1 rfl rfl (Nat.le_of_ble_eq_true rfl) (Nat.le_of_ble_eq_true rfl) (Nat.le_of_ble_eq_true rfl) ⟨Nat.le_refl _, Nat.le_refl _⟩ dX4_comesBehind_5 (fun H locs hw => ?_)
  obtain ⟨z2, hcz2, hf⟩ := bd_some hf
  refine g_callV1 (As := [.int z1]) (rest := []) G hw (gA_mono hw.2.2.2.1.1) C_3 (iC_3 hv_o0) mv_X4_45 (c_Op_uses l D X E n o0 z1 hv_o0 g z2 hcz2) hl.1 rfl rfl (Nat.le_of_ble_eq_true rfl) (Nat.le_of_ble_eq_true rfl) (Nat.le_of_ble_eq_true rfl) ⟨Nat.le_refl _, Nat.le_refl _⟩ dX4_comesBehind_8 (fun H locs hw => ?_)
  refine lv_if_ne (tgt := 62) G.1 G.2.1 dX4_comesBehind_11 (by decide) (fun hc11 => ?_) (fun hc11 => ?_)
  · rw [if_neg hc11] at hf
    refine lv_iconst (v := (1 : Int32)) G.1 G.2.1 dX4_comesBehind_62 (by decide) ?_
    refine lv_goto (tgt := 67) G.1 G.2.1 dX4_comesBehind_63 (by decide) ?_
    exact g_zretR G hr rfl hk hf hw dX4_comesBehind_67
  · rw [if_pos hc11] at hf
    refine lv_aload_n G.1 G.2.1 dX4_comesBehind_14 rfl (lv_at hl 0 rfl) ?_
    refine lv_aload_n G.1 G.2.1 dX4_comesBehind_15 rfl (lv_at hl 1 rfl) ?_
    obtain ⟨z3, hcz3, hf⟩ := bd_some hf
    refine g_callV1 (As := [.ref (E.1 3 o1)]) (rest := []) G hw (gA_mono hw.2.2.2.1.1) C_3 (iC_3 hv_o0) mv_X4_49 (c_Op_touchesGiven l D X E n o0 o1 hv_o0 hv_o1 g z3 hcz3) hl.1 rfl rfl (Nat.le_of_ble_eq_true rfl) (Nat.le_of_ble_eq_true rfl) (Nat.le_of_ble_eq_true rfl) ⟨Nat.le_refl _, Nat.le_refl _⟩ dX4_comesBehind_16 (fun H locs hw => ?_)
    refine lv_if_ne (tgt := 62) G.1 G.2.1 dX4_comesBehind_19 (by decide) (fun hc19 => ?_) (fun hc19 => ?_)
    · rw [if_neg hc19] at hf
      refine lv_iconst (v := (1 : Int32)) G.1 G.2.1 dX4_comesBehind_62 (by decide) ?_
      refine lv_goto (tgt := 67) G.1 G.2.1 dX4_comesBehind_63 (by decide) ?_
      exact g_zretR G hr rfl hk hf hw dX4_comesBehind_67
    · rw [if_pos hc19] at hf
      refine lv_aload_n G.1 G.2.1 dX4_comesBehind_22 rfl (lv_at hl 1 rfl) ?_
      refine lv_aload_n G.1 G.2.1 dX4_comesBehind_23 rfl (lv_at hl 0 rfl) ?_
      obtain ⟨z4, hcz4, hf⟩ := bd_some hf
      refine g_callV1 (As := [.ref (E.1 3 o0)]) (rest := []) G hw (gA_mono hw.2.2.2.1.1) C_3 (iC_3 hv_o1) mv_X4_53 (c_Op_usesGiven l D X E n o1 o0 hv_o1 hv_o0 g z4 hcz4) hl.1 rfl rfl (Nat.le_of_ble_eq_true rfl) (Nat.le_of_ble_eq_true rfl) (Nat.le_of_ble_eq_true rfl) ⟨Nat.le_refl _, Nat.le_refl _⟩ dX4_comesBehind_24 (fun H locs hw => ?_)
      refine lv_if_ne (tgt := 62) G.1 G.2.1 dX4_comesBehind_27 (by decide) (fun hc27 => ?_) (fun hc27 => ?_)
      · rw [if_neg hc27] at hf
        refine lv_iconst (v := (1 : Int32)) G.1 G.2.1 dX4_comesBehind_62 (by decide) ?_
        refine lv_goto (tgt := 67) G.1 G.2.1 dX4_comesBehind_63 (by decide) ?_
        exact g_zretR G hr rfl hk hf hw dX4_comesBehind_67
      · rw [if_pos hc27] at hf
        refine lv_aload_n G.1 G.2.1 dX4_comesBehind_30 rfl (lv_at hl 0 rfl) ?_
        refine g_getI G hw C_3 (iC_3 hv_o0) 1 rfl fl_X4_9 dX4_comesBehind_31 ?_
        refine lv_iconst (v := (2 : Int32)) G.1 G.2.1 dX4_comesBehind_34 (by decide) ?_
        obtain ⟨j5, ej5, hf⟩ := lt9_some hf
        have hj5 : ∀ (_u : Unit) (H : Heap) (locs : List Loc) (ls : Array Slot), j5 _u = some r → GW D X idsC E (gA X idsC E s.heap.size) s g H locs → lv_has ls 2 [(0, .ref (E.1 3 o0)), (1, .ref (E.1 3 o1))] → W p l en { frames := 3, cells := 0, slots := 0, locals := 63 } s m [.ref (E.1 3 o0), .ref (E.1 3 o1)].toArray below meth c H locs 0 0 (MQ below (gQ (some (.int r)) (GP D X idsC E g) (gA X idsC E s.heap.size)) [.ref (E.1 3 o0), .ref (E.1 3 o1)].toArray s 0 0 (gA X idsC E s.heap.size)) (F0 m 46 ls []) := by
          intro _u H locs ls hf hw hl
          rw [ej5] at hf
          beta_reduce at hf
          refine lv_aload_n G.1 G.2.1 dX4_comesBehind_46 rfl (lv_at hl 1 rfl) ?_
          refine g_getI G hw C_3 (iC_3 hv_o1) 1 rfl fl_X4_9 dX4_comesBehind_47 ?_
          refine lv_iconst (v := (2 : Int32)) G.1 G.2.1 dX4_comesBehind_50 (by decide) ?_
          refine lv_icmp_ne (tgt := 66) G.1 G.2.1 dX4_comesBehind_51 (by decide) (fun hc51 => ?_) (fun hc51 => ?_)
          · rw [if_neg hc51] at hf
            refine lv_iconst (v := (0 : Int32)) G.1 G.2.1 dX4_comesBehind_66 (by decide) ?_
            exact g_zretR G hr rfl hk hf hw dX4_comesBehind_67
          · rw [if_pos hc51] at hf
            refine lv_aload_n G.1 G.2.1 dX4_comesBehind_54 rfl (lv_at hl 0 rfl) ?_
            refine g_getI G hw C_3 (iC_3 hv_o0) 2 rfl fl_X4_25 dX4_comesBehind_55 ?_
            refine lv_iconst (v := (2 : Int32)) G.1 G.2.1 dX4_comesBehind_58 (by decide) ?_
            refine lv_icmp_ne (tgt := 66) G.1 G.2.1 dX4_comesBehind_59 (by decide) (fun hc59 => ?_) (fun hc59 => ?_)
            · rw [if_neg hc59] at hf
              refine lv_iconst (v := (0 : Int32)) G.1 G.2.1 dX4_comesBehind_66 (by decide) ?_
              exact g_zretR G hr rfl hk hf hw dX4_comesBehind_67
            · rw [if_pos hc59] at hf
              refine lv_iconst (v := (1 : Int32)) G.1 G.2.1 dX4_comesBehind_62 (by decide) ?_
              refine lv_goto (tgt := 67) G.1 G.2.1 dX4_comesBehind_63 (by decide) ?_
              exact g_zretR G hr rfl hk hf hw dX4_comesBehind_67
        refine lv_icmp_ne (tgt := 46) G.1 G.2.1 dX4_comesBehind_35 (by decide) (fun hc35 => ?_) (fun hc35 => ?_)
        · rw [if_neg hc35] at hf
          exact hj5 () _ _ ls hf hw (lv_sub hl [0, 1] rfl)
        · rw [if_pos hc35] at hf
          refine lv_aload_n G.1 G.2.1 dX4_comesBehind_38 rfl (lv_at hl 1 rfl) ?_
          refine g_getI G hw C_3 (iC_3 hv_o1) 2 rfl fl_X4_25 dX4_comesBehind_39 ?_
          refine lv_iconst (v := (2 : Int32)) G.1 G.2.1 dX4_comesBehind_42 (by decide) ?_
          refine lv_icmp_eq (tgt := 62) G.1 G.2.1 dX4_comesBehind_43 (by decide) (fun hc43 => ?_) (fun hc43 => ?_)
          · rw [if_pos hc43] at hf
            refine lv_iconst (v := (1 : Int32)) G.1 G.2.1 dX4_comesBehind_62 (by decide) ?_
            refine lv_goto (tgt := 67) G.1 G.2.1 dX4_comesBehind_63 (by decide) ?_
            exact g_zretR G hr rfl hk hf hw dX4_comesBehind_67
          · rw [if_neg hc43] at hf
            exact hj5 () _ _ ls hf hw (lv_sub hl [0, 1] rfl)

set_option maxHeartbeats 4000000 in
set_option maxRecDepth 100000 in
theorem c_Op_fillsRegister (l : Launch) (D : va_G) (X : va_W) (E : gE) (n : Nat) (o0 : Nat) (hv_o0 : o0 < 400) (g : Mem) (r : Int32) (hf : Op_fillsRegister n o0 g = some r) : gMet l yX4_fillsRegister cX4_fillsRegister 1 (some .boolean) 0 0 D X idsC E [.ref (E.1 3 o0)] g (some (.int r)) g := by
  rw [Op_fillsRegister] at hf
  refine gt_code (by decide) (Nat.le_of_ble_eq_true rfl) (fun p en s m below meth c ls G hr hk hw hl => ?_)
  have hl : lv_has ls 1 [(0, .ref (E.1 3 o0))] := hl
  refine lv_aload_n G.1 G.2.1 dX4_fillsRegister_0 rfl (lv_at hl 0 rfl) ?_
  refine g_getI G hw C_3 (iC_3 hv_o0) 5 rfl fl_X4_28 dX4_fillsRegister_1 ?_
  refine lv_iconst (v := (-1 : Int32)) G.1 G.2.1 dX4_fillsRegister_4 (by decide) ?_
  refine lv_icmp_ne (tgt := 20) G.1 G.2.1 dX4_fillsRegister_5 (by decide) (fun hc5 => ?_) (fun hc5 => ?_)
  · rw [if_neg hc5] at hf
    refine lv_iconst (v := (0 : Int32)) G.1 G.2.1 dX4_fillsRegister_20 (by decide) ?_
    exact g_zretR G hr rfl hk hf hw dX4_fillsRegister_21
  · rw [if_pos hc5] at hf
    refine lv_aload_n G.1 G.2.1 dX4_fillsRegister_8 rfl (lv_at hl 0 rfl) ?_
    refine g_getI G hw C_3 (iC_3 hv_o0) 1 rfl fl_X4_9 dX4_fillsRegister_9 ?_
    refine lv_iconst (v := (2 : Int32)) G.1 G.2.1 dX4_fillsRegister_12 (by decide) ?_
    refine lv_icmp_eq (tgt := 20) G.1 G.2.1 dX4_fillsRegister_13 (by decide) (fun hc13 => ?_) (fun hc13 => ?_)
    · rw [if_pos hc13] at hf
      refine lv_iconst (v := (0 : Int32)) G.1 G.2.1 dX4_fillsRegister_20 (by decide) ?_
      exact g_zretR G hr rfl hk hf hw dX4_fillsRegister_21
    · rw [if_neg hc13] at hf
      refine lv_iconst (v := (1 : Int32)) G.1 G.2.1 dX4_fillsRegister_16 (by decide) ?_
      refine lv_goto (tgt := 21) G.1 G.2.1 dX4_fillsRegister_17 (by decide) ?_
      exact g_zretR G hr rfl hk hf hw dX4_fillsRegister_21

set_option maxHeartbeats 4000000 in
set_option maxRecDepth 100000 in
theorem c_Od_isValue (l : Launch) (D : va_G) (X : va_W) (E : gE) (n : Nat) (a1 : Int32) (g : Mem) (r : Int32) (hf : Od_isValue n a1 = some r) : gMet l yX3_isValue cX3_isValue 1 (some .boolean) 0 0 D X idsC E [.int a1] g (some (.int r)) g := by
  rw [Od_isValue] at hf
  refine gt_code (by decide) (Nat.le_of_ble_eq_true rfl) (fun p en s m below meth c ls G hr hk hw hl => ?_)
  have hl : lv_has ls 1 [(0, .int a1)] := hl
  refine lv_iload_n G.1 G.2.1 dX3_isValue_0 rfl (lv_at hl 0 rfl) ?_
  refine lv_bipush (v := (-9 : Int32)) G.1 G.2.1 dX3_isValue_1 (by decide) ?_
  refine lv_icmp_gt (tgt := 17) G.1 G.2.1 dX3_isValue_3 (by decide) (fun hc3 => ?_) (fun hc3 => ?_)
  · rw [if_pos hc3] at hf
    refine lv_iconst (v := (0 : Int32)) G.1 G.2.1 dX3_isValue_17 (by decide) ?_
    exact g_zretR G hr rfl hk hf hw dX3_isValue_18
  · rw [if_neg hc3] at hf
    refine lv_iload_n G.1 G.2.1 dX3_isValue_6 rfl (lv_at hl 0 rfl) ?_
    refine lv_sipush (v := (-209 : Int32)) G.1 G.2.1 dX3_isValue_7 (by decide) ?_
    refine lv_icmp_le (tgt := 17) G.1 G.2.1 dX3_isValue_10 (by decide) (fun hc10 => ?_) (fun hc10 => ?_)
    · rw [if_pos hc10] at hf
      refine lv_iconst (v := (0 : Int32)) G.1 G.2.1 dX3_isValue_17 (by decide) ?_
      exact g_zretR G hr rfl hk hf hw dX3_isValue_18
    · rw [if_neg hc10] at hf
      refine lv_iconst (v := (1 : Int32)) G.1 G.2.1 dX3_isValue_13 (by decide) ?_
      refine lv_goto (tgt := 18) G.1 G.2.1 dX3_isValue_14 (by decide) ?_
      exact g_zretR G hr rfl hk hf hw dX3_isValue_18

set_option maxHeartbeats 4000000 in
set_option maxRecDepth 100000 in
theorem c_Od_operationOf (l : Launch) (D : va_G) (X : va_W) (E : gE) (n : Nat) (a1 : Int32) (g : Mem) (r : Int32) (hf : Od_operationOf n a1 = some r) : gMet l yX3_operationOf cX3_operationOf 1 (some .int) 0 0 D X idsC E [.int a1] g (some (.int r)) g := by
  rw [Od_operationOf] at hf
  refine gt_code (by decide) (Nat.le_of_ble_eq_true rfl) (fun p en s m below meth c ls G hr hk hw hl => ?_)
  have hl : lv_has ls 1 [(0, .int a1)] := hl
  refine lv_bipush (v := (-9 : Int32)) G.1 G.2.1 dX3_operationOf_0 (by decide) ?_
  refine lv_iload_n G.1 G.2.1 dX3_operationOf_2 rfl (lv_at hl 0 rfl) ?_
  refine lv_isub G.1 G.2.1 dX3_operationOf_3 ?_
  exact g_iretR G hr hk hf hw dX3_operationOf_4

set_option maxHeartbeats 4000000 in
set_option maxRecDepth 100000 in
theorem c_Od_isNumber (l : Launch) (D : va_G) (X : va_W) (E : gE) (n : Nat) (a1 : Int32) (g : Mem) (r : Int32) (hf : Od_isNumber n a1 = some r) : gMet l yX3_isNumber cX3_isNumber 1 (some .boolean) 0 0 D X idsC E [.int a1] g (some (.int r)) g := by
  rw [Od_isNumber] at hf
  refine gt_code (by decide) (Nat.le_of_ble_eq_true rfl) (fun p en s m below meth c ls G hr hk hw hl => ?_)
  have hl : lv_has ls 1 [(0, .int a1)] := hl
  refine lv_iload_n G.1 G.2.1 dX3_isNumber_0 rfl (lv_at hl 0 rfl) ?_
  refine lv_if_lt (tgt := 8) G.1 G.2.1 dX3_isNumber_1 (by decide) (fun hc1 => ?_) (fun hc1 => ?_)
  · rw [if_pos hc1] at hf
    refine lv_iconst (v := (0 : Int32)) G.1 G.2.1 dX3_isNumber_8 (by decide) ?_
    exact g_zretR G hr rfl hk hf hw dX3_isNumber_9
  · rw [if_neg hc1] at hf
    refine lv_iconst (v := (1 : Int32)) G.1 G.2.1 dX3_isNumber_4 (by decide) ?_
    refine lv_goto (tgt := 9) G.1 G.2.1 dX3_isNumber_5 (by decide) ?_
    exact g_zretR G hr rfl hk hf hw dX3_isNumber_9

set_option maxHeartbeats 4000000 in
set_option maxRecDepth 100000 in
theorem c_Od_variableOf (l : Launch) (D : va_G) (X : va_W) (E : gE) (n : Nat) (a1 : Int32) (g : Mem) (r : Int32) (hf : Od_variableOf n a1 = some r) : gMet l yX3_variableOf cX3_variableOf 1 (some .int) 0 0 D X idsC E [.int a1] g (some (.int r)) g := by
  rw [Od_variableOf] at hf
  refine gt_code (by decide) (Nat.le_of_ble_eq_true rfl) (fun p en s m below meth c ls G hr hk hw hl => ?_)
  have hl : lv_has ls 1 [(0, .int a1)] := hl
  refine lv_iconst (v := (-1 : Int32)) G.1 G.2.1 dX3_variableOf_0 (by decide) ?_
  refine lv_iload_n G.1 G.2.1 dX3_variableOf_1 rfl (lv_at hl 0 rfl) ?_
  refine lv_isub G.1 G.2.1 dX3_variableOf_2 ?_
  exact g_iretR G hr hk hf hw dX3_variableOf_3

set_option maxHeartbeats 4000000 in
set_option maxRecDepth 100000 in
theorem c_Op_kindOf (l : Launch) (D : va_G) (X : va_W) (E : gE) (n : Nat) (a1 : Int32) (g : Mem) (r : Int32) (hf : Op_kindOf n a1 = some r) : gMet l yX4_kindOf cX4_kindOf 1 (some .int) 0 0 D X idsC E [.int a1] g (some (.int r)) g := by
  rw [Op_kindOf] at hf
  refine gt_code (by decide) (Nat.le_of_ble_eq_true rfl) (fun p en s m below meth c ls G hr hk hw hl => ?_)
  have hl : lv_has ls 1 [(0, .int a1)] := hl
  refine lv_iload_n G.1 G.2.1 dX4_kindOf_0 rfl (lv_at hl 0 rfl) ?_
  by_cases hs1_1 : a1 = 1
  · rw [if_pos hs1_1] at hf
    refine lv_lookup (tgt := 46) G.1 G.2.1 dX4_kindOf_1 (by decide) (by rw [hs1_1]; rfl) (by decide) ?_
    refine lv_iconst (v := (2 : Int32)) G.1 G.2.1 dX4_kindOf_46 (by decide) ?_
    exact g_iretR G hr hk hf hw dX4_kindOf_47
  · rw [if_neg hs1_1] at hf
    by_cases hs1_2 : a1 = 2
    · rw [if_pos hs1_2] at hf
      refine lv_lookup (tgt := 46) G.1 G.2.1 dX4_kindOf_1 (by decide) (by rw [hs1_2]; rfl) (by decide) ?_
      refine lv_iconst (v := (2 : Int32)) G.1 G.2.1 dX4_kindOf_46 (by decide) ?_
      exact g_iretR G hr hk hf hw dX4_kindOf_47
    · rw [if_neg hs1_2] at hf
      by_cases hs1_3 : a1 = 3
      · rw [if_pos hs1_3] at hf
        refine lv_lookup (tgt := 48) G.1 G.2.1 dX4_kindOf_1 (by decide) (by rw [hs1_3]; rfl) (by decide) ?_
        refine lv_iconst (v := (3 : Int32)) G.1 G.2.1 dX4_kindOf_48 (by decide) ?_
        exact g_iretR G hr hk hf hw dX4_kindOf_49
      · rw [if_neg hs1_3] at hf
        by_cases hs1_42 : a1 = 42
        · rw [if_pos hs1_42] at hf
          refine lv_lookup (tgt := 44) G.1 G.2.1 dX4_kindOf_1 (by decide) (by rw [hs1_42]; rfl) (by decide) ?_
          refine lv_iconst (v := (1 : Int32)) G.1 G.2.1 dX4_kindOf_44 (by decide) ?_
          exact g_iretR G hr hk hf hw dX4_kindOf_45
        · rw [if_neg hs1_42] at hf
          refine lv_lookup (tgt := 50) G.1 G.2.1 dX4_kindOf_1 (by decide) (off := 49) (by rw [lv_osw hs1_1 (by decide)]; rw [lv_osw hs1_2 (by decide)]; rw [lv_osw hs1_3 (by decide)]; rw [lv_osw hs1_42 (by decide)]; rfl) (by decide) ?_
          refine lv_iconst (v := (0 : Int32)) G.1 G.2.1 dX4_kindOf_50 (by decide) ?_
          exact g_iretR G hr hk hf hw dX4_kindOf_51

set_option maxHeartbeats 4000000 in
set_option maxRecDepth 100000 in
theorem c_Op_become (l : Launch) (D : va_G) (X : va_W) (E : gE) (n : Nat) (o0 : Nat) (a1 : Int32) (a2 : Int32) (a3 : Int32) (hv_o0 : o0 < 400) (g : Mem) (g' : Mem) (hf : Op_become n o0 a1 a2 a3 g = some g') : gMet l yX4_become cX4_become 4 none 1 20 D X idsC E [.ref (E.1 3 o0), .int a1, .int a2, .int a3] g none g' := by
  rw [Op_become] at hf
  refine gt_code (by decide) (Nat.le_of_ble_eq_true rfl) (fun p en s m below meth c ls G hr hk hw hl => ?_)
  have hl : lv_has ls 4 [(0, .ref (E.1 3 o0)), (1, .int a1), (2, .int a2), (3, .int a3)] := hl
  refine lv_aload_n G.1 G.2.1 dX4_become_0 rfl (lv_at hl 0 rfl) ?_
  refine lv_iload_n G.1 G.2.1 dX4_become_1 rfl (lv_at hl 1 rfl) ?_
  obtain ⟨g1, eg1, hf⟩ := lt9_some hf
  refine g_putI G hw C_3 (iC_3 hv_o0) 1 rfl fl_X4_9 rfl rfl rfl dX4_become_2 (fun H locs hw => ?_)
  rw [← eg1] at hw
  refine lv_aload_n G.1 G.2.1 dX4_become_5 rfl (lv_at hl 0 rfl) ?_
  refine lv_iload_n G.1 G.2.1 dX4_become_6 rfl (lv_at hl 2 rfl) ?_
  obtain ⟨g2, eg2, hf⟩ := lt9_some hf
  refine g_putI G hw C_3 (iC_3 hv_o0) 3 rfl fl_X4_15 rfl rfl rfl dX4_become_7 (fun H locs hw => ?_)
  rw [← eg2] at hw
  refine lv_aload_n G.1 G.2.1 dX4_become_10 rfl (lv_at hl 0 rfl) ?_
  refine lv_iload_n G.1 G.2.1 dX4_become_11 rfl (lv_at hl 3 rfl) ?_
  obtain ⟨g3, eg3, hf⟩ := lt9_some hf
  refine g_putI G hw C_3 (iC_3 hv_o0) 4 rfl fl_X4_18 rfl rfl rfl dX4_become_12 (fun H locs hw => ?_)
  rw [← eg3] at hw
  refine lv_aload_n G.1 G.2.1 dX4_become_15 rfl (lv_at hl 0 rfl) ?_
  refine lv_iload_n G.1 G.2.1 dX4_become_16 rfl (lv_at hl 1 rfl) ?_
  obtain ⟨z4, hcz4, hf⟩ := bd_some hf
  refine g_callS1 (As := [.int a1]) (rest := [.ref (E.1 3 o0)]) G hw (gA_mono hw.2.2.2.1.1)  ms_X4_21 (c_Op_kindOf l D X E n a1 g3 z4 hcz4) hl.1 rfl rfl (Nat.le_of_ble_eq_true rfl) (Nat.le_of_ble_eq_true rfl) (Nat.le_of_ble_eq_true rfl) ⟨Nat.le_refl _, Nat.le_refl _⟩ dX4_become_17 (fun H locs hw => ?_)
  obtain ⟨g5, eg5, hf⟩ := lt9_some hf
  refine g_putI G hw C_3 (iC_3 hv_o0) 2 rfl fl_X4_25 rfl rfl rfl dX4_become_20 (fun H locs hw => ?_)
  rw [← eg5] at hw
  refine lv_aload_n G.1 G.2.1 dX4_become_23 rfl (lv_at hl 0 rfl) ?_
  refine lv_iconst (v := (-1 : Int32)) G.1 G.2.1 dX4_become_24 (by decide) ?_
  obtain ⟨g6, eg6, hf⟩ := lt9_some hf
  refine g_putI G hw C_3 (iC_3 hv_o0) 5 rfl fl_X4_28 rfl rfl rfl dX4_become_25 (fun H locs hw => ?_)
  rw [← eg6] at hw
  exact g_vretW G hr hk hf hw dX4_become_28

set_option maxHeartbeats 4000000 in
set_option maxRecDepth 100000 in
theorem c_Pg_clear (l : Launch) (D : va_G) (X : va_W) (E : gE) (n : Nat) (p0 : Nat) (hv_p0 : p0 < 2) (g : Mem) (g' : Mem) (hf : Pg_clear n p0 g = some g') : gMet l yX5_clear cX5_clear 1 none 0 0 D X idsC E [.ref (E.1 4 p0)] g none g' := by
  rw [Pg_clear] at hf
  refine gt_code (by decide) (Nat.le_of_ble_eq_true rfl) (fun p en s m below meth c ls G hr hk hw hl => ?_)
  have hl : lv_has ls 1 [(0, .ref (E.1 4 p0))] := hl
  refine lv_aload_n G.1 G.2.1 dX5_clear_0 rfl (lv_at hl 0 rfl) ?_
  refine lv_iconst (v := (0 : Int32)) G.1 G.2.1 dX5_clear_1 (by decide) ?_
  obtain ⟨g1, eg1, hf⟩ := lt9_some hf
  refine g_putI G hw C_4 (iC_4 hv_p0) 2 rfl fl_X5_29 rfl rfl rfl dX5_clear_2 (fun H locs hw => ?_)
  rw [← eg1] at hw
  refine lv_aload_n G.1 G.2.1 dX5_clear_5 rfl (lv_at hl 0 rfl) ?_
  refine lv_iconst (v := (0 : Int32)) G.1 G.2.1 dX5_clear_6 (by decide) ?_
  obtain ⟨g2, eg2, hf⟩ := lt9_some hf
  refine g_putI G hw C_4 (iC_4 hv_p0) 3 rfl fl_X5_32 rfl rfl rfl dX5_clear_7 (fun H locs hw => ?_)
  rw [← eg2] at hw
  exact g_vretW G hr hk hf hw dX5_clear_10

set_option maxHeartbeats 4000000 in
set_option maxRecDepth 100000 in
theorem c_Pg_isFull (l : Launch) (D : va_G) (X : va_W) (E : gE) (n : Nat) (p0 : Nat) (hv_p0 : p0 < 2) (g : Mem) (r : Int32) (hf : Pg_isFull n p0 g = some r) : gMet l yX5_isFull cX5_isFull 1 (some .boolean) 0 0 D X idsC E [.ref (E.1 4 p0)] g (some (.int r)) g := by
  rw [Pg_isFull] at hf
  refine gt_code (by decide) (Nat.le_of_ble_eq_true rfl) (fun p en s m below meth c ls G hr hk hw hl => ?_)
  have hl : lv_has ls 1 [(0, .ref (E.1 4 p0))] := hl
  refine lv_aload_n G.1 G.2.1 dX5_isFull_0 rfl (lv_at hl 0 rfl) ?_
  refine g_getI G hw C_4 (iC_4 hv_p0) 2 rfl fl_X5_29 dX5_isFull_1 ?_
  refine lv_sipush (v := (200 : Int32)) G.1 G.2.1 dX5_isFull_4 (by decide) ?_
  refine lv_icmp_ne (tgt := 14) G.1 G.2.1 dX5_isFull_7 (by decide) (fun hc7 => ?_) (fun hc7 => ?_)
  · rw [if_neg hc7] at hf
    refine lv_iconst (v := (0 : Int32)) G.1 G.2.1 dX5_isFull_14 (by decide) ?_
    exact g_zretR G hr rfl hk hf hw dX5_isFull_15
  · rw [if_pos hc7] at hf
    refine lv_iconst (v := (1 : Int32)) G.1 G.2.1 dX5_isFull_10 (by decide) ?_
    refine lv_goto (tgt := 15) G.1 G.2.1 dX5_isFull_11 (by decide) ?_
    exact g_zretR G hr rfl hk hf hw dX5_isFull_15

set_option maxHeartbeats 4000000 in
set_option maxRecDepth 100000 in
theorem c_Pg_addBlock (l : Launch) (D : va_G) (X : va_W) (E : gE) (n : Nat) (p0 : Nat) (hv_p0 : p0 < 2) (g : Mem) (r : Nat) (g' : Mem) (hf : Pg_addBlock n p0 g = some (r, g')) : gMet l yX5_addBlock cX5_addBlock 2 (some (.object "CycleSynthesis$Block")) 1 21 D X idsC E [.ref (E.1 4 p0)] g (some (.ref (E.1 0 r))) g' := by
  rw [Pg_addBlock] at hf
  refine gt_code (by decide) (Nat.le_of_ble_eq_true rfl) (fun p en s m below meth c ls G hr hk hw hl => ?_)
  have hl : lv_has ls 2 [(0, .ref (E.1 4 p0))] := hl
  refine lv_aload_n G.1 G.2.1 dX5_addBlock_0 rfl (lv_at hl 0 rfl) ?_
  refine g_getC G hw C_4 (iC_4 hv_p0) 1 32 rfl (by decide) rfl fl_X5_24 dX5_addBlock_1 ?_
  refine lv_aload_n G.1 G.2.1 dX5_addBlock_4 rfl (lv_at hl 0 rfl) ?_
  refine g_getI G hw C_4 (iC_4 hv_p0) 3 rfl fl_X5_32 dX5_addBlock_5 ?_
  obtain ⟨j1, hj1, hf⟩ := bd_some hf
  refine g_bald G hw (iC_32 hv_p0) (by decide) rfl hj1 dX5_addBlock_8 ?_
  refine lv_astore_n (lv' := [(1, .ref (E.1 0 (175 * p0 + j1))), (0, .ref (E.1 4 p0))]) G.1 G.2.1 dX5_addBlock_9 rfl hl (by decide) rfl (fun ls hl => ?_)
  refine lv_aload_n G.1 G.2.1 dX5_addBlock_10 rfl (lv_at hl 0 rfl) ?_
  refine lv_aload_n G.1 G.2.1 dX5_addBlock_11 rfl (lv_at hl 1 rfl) ?_
  refine g_getI G hw C_4 (iC_4 hv_p0) 2 rfl fl_X5_29 dX5_addBlock_12 ?_
  obtain ⟨g2, hcg2, hf⟩ := bd_some hf
  refine g_callV0 (As := [.int (gI g 4 p0 2)]) (rest := []) G hw (gA_mono hw.2.2.2.1.1) C_0 (iC_0 (v_0 hv_p0 hj1)) mv_X5_35 (c_Bk_become l D X E n (175 * p0 + j1) (gI g 4 p0 2) (v_0 hv_p0 hj1) g g2 hcg2) hl.1 rfl rfl (Nat.le_of_ble_eq_true rfl) (Nat.le_of_ble_eq_true rfl) (Nat.le_of_ble_eq_true rfl) ⟨Nat.le_refl _, Nat.le_refl _⟩ dX5_addBlock_15 (fun H locs hw => ?_)
  refine lv_aload_n G.1 G.2.1 dX5_addBlock_18 rfl (lv_at hl 1 rfl) ?_
  refine lv_dup G.1 G.2.1 dX5_addBlock_19 rfl ?_
  refine g_getI G hw C_4 (iC_4 hv_p0) 3 rfl fl_X5_32 dX5_addBlock_20 ?_
  refine lv_iconst (v := (1 : Int32)) G.1 G.2.1 dX5_addBlock_23 (by decide) ?_
  refine lv_iadd G.1 G.2.1 dX5_addBlock_24 ?_
  obtain ⟨g3, eg3, hf⟩ := lt9_some hf
  refine g_putI G hw C_4 (iC_4 hv_p0) 3 rfl fl_X5_32 rfl rfl rfl dX5_addBlock_25 (fun H locs hw => ?_)
  rw [← eg3] at hw
  refine lv_aload_n G.1 G.2.1 dX5_addBlock_28 rfl (lv_at hl 0 rfl) ?_
  exact g_aretW G hr hk hf hw dX5_addBlock_29

set_option maxHeartbeats 4000000 in
set_option maxRecDepth 100000 in
theorem c_Pg_addOperation (l : Launch) (D : va_G) (X : va_W) (E : gE) (n : Nat) (p0 : Nat) (a1 : Int32) (a2 : Int32) (a3 : Int32) (hv_p0 : p0 < 2) (g : Mem) (r : Nat) (g' : Mem) (hf : Pg_addOperation n p0 a1 a2 a3 g = some (r, g')) : gMet l yX5_addOperation cX5_addOperation 5 (some (.object "CycleSynthesis$Operation")) 2 43 D X idsC E [.ref (E.1 4 p0), .int a1, .int a2, .int a3] g (some (.ref (E.1 3 r))) g' := by
  rw [Pg_addOperation] at hf
  refine gt_code (by decide) (Nat.le_of_ble_eq_true rfl) (fun p en s m below meth c ls G hr hk hw hl => ?_)
  have hl : lv_has ls 5 [(0, .ref (E.1 4 p0)), (1, .int a1), (2, .int a2), (3, .int a3)] := hl
  refine lv_aload_n G.1 G.2.1 dX5_addOperation_0 rfl (lv_at hl 0 rfl) ?_
  refine g_getC G hw C_4 (iC_4 hv_p0) 0 31 rfl (by decide) rfl fl_X5_11 dX5_addOperation_1 ?_
  refine lv_aload_n G.1 G.2.1 dX5_addOperation_4 rfl (lv_at hl 0 rfl) ?_
  refine g_getI G hw C_4 (iC_4 hv_p0) 2 rfl fl_X5_29 dX5_addOperation_5 ?_
  obtain ⟨j1, hj1, hf⟩ := bd_some hf
  refine g_oald G hw (iC_31 hv_p0) (by decide) rfl hj1 dX5_addOperation_8 ?_
  refine lv_astore (lv' := [(4, .ref (E.1 3 (200 * p0 + j1))), (0, .ref (E.1 4 p0)), (1, .int a1), (2, .int a2), (3, .int a3)]) G.1 G.2.1 dX5_addOperation_9 hl (by decide) rfl (fun ls hl => ?_)
  refine lv_aload G.1 G.2.1 dX5_addOperation_11 (lv_at hl 0 rfl) ?_
  refine lv_iload_n G.1 G.2.1 dX5_addOperation_13 rfl (lv_at hl 2 rfl) ?_
  refine lv_iload_n G.1 G.2.1 dX5_addOperation_14 rfl (lv_at hl 3 rfl) ?_
  refine lv_iload_n G.1 G.2.1 dX5_addOperation_15 rfl (lv_at hl 4 rfl) ?_
  obtain ⟨g2, hcg2, hf⟩ := bd_some hf
  refine g_callV0 (As := [.int a1, .int a2, .int a3]) (rest := []) G hw (gA_mono hw.2.2.2.1.1) C_3 (iC_3 (v_3 hv_p0 hj1)) mv_X5_39 (c_Op_become l D X E n (200 * p0 + j1) a1 a2 a3 (v_3 hv_p0 hj1) g g2 hcg2) hl.1 rfl rfl (Nat.le_of_ble_eq_true rfl) (Nat.le_of_ble_eq_true rfl) (Nat.le_of_ble_eq_true rfl) ⟨Nat.le_refl _, Nat.le_refl _⟩ dX5_addOperation_16 (fun H locs hw => ?_)
  refine lv_aload G.1 G.2.1 dX5_addOperation_19 (lv_at hl 0 rfl) ?_
  refine lv_aload_n G.1 G.2.1 dX5_addOperation_21 rfl (lv_at hl 1 rfl) ?_
  refine g_getI G hw C_4 (iC_4 hv_p0) 3 rfl fl_X5_32 dX5_addOperation_22 ?_
  refine lv_iconst (v := (1 : Int32)) G.1 G.2.1 dX5_addOperation_25 (by decide) ?_
  refine lv_isub G.1 G.2.1 dX5_addOperation_26 ?_
  obtain ⟨g3, eg3, hf⟩ := lt9_some hf
  refine g_putI G hw C_3 (iC_3 (v_3 hv_p0 hj1)) 6 rfl fl_X5_42 rfl rfl rfl dX5_addOperation_27 (fun H locs hw => ?_)
  rw [← eg3] at hw
  refine lv_aload_n G.1 G.2.1 dX5_addOperation_30 rfl (lv_at hl 1 rfl) ?_
  refine g_getC G hw C_4 (iC_4 hv_p0) 1 32 rfl (by decide) rfl fl_X5_24 dX5_addOperation_31 ?_
  refine lv_aload_n G.1 G.2.1 dX5_addOperation_34 rfl (lv_at hl 1 rfl) ?_
  refine g_getI G hw C_4 (iC_4 hv_p0) 3 rfl fl_X5_32 dX5_addOperation_35 ?_
  refine lv_iconst (v := (1 : Int32)) G.1 G.2.1 dX5_addOperation_38 (by decide) ?_
  refine lv_isub G.1 G.2.1 dX5_addOperation_39 ?_
  obtain ⟨j4, hj4, hf⟩ := bd_some hf
  refine g_bald G hw (iC_32 hv_p0) (by decide) rfl hj4 dX5_addOperation_40 ?_
  refine lv_dup G.1 G.2.1 dX5_addOperation_41 rfl ?_
  refine g_getI G hw C_0 (iC_0 (v_0 hv_p0 hj4)) 1 rfl fl_X5_44 dX5_addOperation_42 ?_
  refine lv_iconst (v := (1 : Int32)) G.1 G.2.1 dX5_addOperation_45 (by decide) ?_
  refine lv_iadd G.1 G.2.1 dX5_addOperation_46 ?_
  obtain ⟨g5, eg5, hf⟩ := lt9_some hf
  refine g_putI G hw C_0 (iC_0 (v_0 hv_p0 hj4)) 1 rfl fl_X5_44 rfl rfl rfl dX5_addOperation_47 (fun H locs hw => ?_)
  rw [← eg5] at hw
  refine lv_aload_n G.1 G.2.1 dX5_addOperation_50 rfl (lv_at hl 1 rfl) ?_
  refine lv_dup G.1 G.2.1 dX5_addOperation_51 rfl ?_
  refine g_getI G hw C_4 (iC_4 hv_p0) 2 rfl fl_X5_29 dX5_addOperation_52 ?_
  refine lv_iconst (v := (1 : Int32)) G.1 G.2.1 dX5_addOperation_55 (by decide) ?_
  refine lv_iadd G.1 G.2.1 dX5_addOperation_56 ?_
  obtain ⟨g6, eg6, hf⟩ := lt9_some hf
  refine g_putI G hw C_4 (iC_4 hv_p0) 2 rfl fl_X5_29 rfl rfl rfl dX5_addOperation_57 (fun H locs hw => ?_)
  rw [← eg6] at hw
  refine lv_aload G.1 G.2.1 dX5_addOperation_60 (lv_at hl 0 rfl) ?_
  exact g_aretW G hr hk hf hw dX5_addOperation_62

set_option maxHeartbeats 4000000 in
set_option maxRecDepth 100000 in
theorem c_Pg_allCycles (l : Launch) (D : va_G) (X : va_W) (E : gE) (n : Nat) (p0 : Nat) (hv_p0 : p0 < 2) (g : Mem) (r : Int32) (hf : Pg_allCycles n p0 g = some r) : gMet l yX5_allCycles cX5_allCycles 3 (some .int) 0 0 D X idsC E [.ref (E.1 4 p0)] g (some (.int r)) g := by
  rw [Pg_allCycles] at hf
  refine gt_code (by decide) (Nat.le_of_ble_eq_true rfl) (fun p en s m below meth c ls G hr hk hw hl => ?_)
  have hl : lv_has ls 3 [(0, .ref (E.1 4 p0))] := hl
  refine lv_iconst (v := (0 : Int32)) G.1 G.2.1 dX5_allCycles_0 (by decide) ?_
  refine lv_istore_n (lv' := [(1, .int (0 : Int32)), (0, .ref (E.1 4 p0))]) G.1 G.2.1 dX5_allCycles_1 rfl hl (by decide) rfl (fun ls hl => ?_)
  refine lv_iconst (v := (0 : Int32)) G.1 G.2.1 dX5_allCycles_2 (by decide) ?_
  refine lv_istore_n (lv' := [(2, .int (0 : Int32)), (1, .int (0 : Int32)), (0, .ref (E.1 4 p0))]) G.1 G.2.1 dX5_allCycles_3 rfl hl (by decide) rfl (fun ls hl => ?_)
  have hL4 : ∀ (k1 : Nat) (x2 : Int32) (x3 : Int32) (res1 : Int32) (H : Heap) (locs : List Loc) (ls : Array Slot), Pg_allCycles_L4 n g p0 k1 x2 x3 = some res1 → GW D X idsC E (gA X idsC E s.heap.size) s g H locs → lv_has ls 3 [(0, .ref (E.1 4 p0)), (1, .int x2), (2, .int x3)] → (∀ (H : Heap) (locs : List Loc) (ls : Array Slot), GW D X idsC E (gA X idsC E s.heap.size) s g H locs → lv_has ls 3 [(1, .int res1)] → W p l en { frames := 0, cells := 0, slots := 0, locals := 0 } s m [.ref (E.1 4 p0)].toArray below meth c H locs 0 0 (MQ below (gQ (some (.int r)) (GP D X idsC E g) (gA X idsC E s.heap.size)) [.ref (E.1 4 p0)].toArray s 0 0 (gA X idsC E s.heap.size)) (F0 m 30 ls [])) → W p l en { frames := 0, cells := 0, slots := 0, locals := 0 } s m [.ref (E.1 4 p0)].toArray below meth c H locs 0 0 (MQ below (gQ (some (.int r)) (GP D X idsC E g) (gA X idsC E s.heap.size)) [.ref (E.1 4 p0)].toArray s 0 0 (gA X idsC E s.heap.size)) (F0 m 4 ls []) := by
    intro k1
    induction k1 with
    | zero => intro x2 x3 res1 H locs ls hf; rw [Pg_allCycles_L4] at hf; cases hf
    | succ k1 ih1 =>
      intro x2 x3 res1 H locs ls hf hw hl hk1_0
      rw [Pg_allCycles_L4] at hf
      refine lv_iload_n G.1 G.2.1 dX5_allCycles_4 rfl (lv_at hl 2 rfl) ?_
      refine lv_aload_n G.1 G.2.1 dX5_allCycles_5 rfl (lv_at hl 0 rfl) ?_
      refine g_getI G hw C_4 (iC_4 hv_p0) 3 rfl fl_X5_32 dX5_allCycles_6 ?_
      refine lv_icmp_ge (tgt := 30) G.1 G.2.1 dX5_allCycles_9 (by decide) (fun hc9 => ?_) (fun hc9 => ?_)
      · rw [if_pos hc9] at hf
        obtain rfl := Option.some.inj hf
        exact hk1_0 _ _ ls hw (lv_sub hl [1] rfl)
      · rw [if_neg hc9] at hf
        refine lv_iload_n G.1 G.2.1 dX5_allCycles_12 rfl (lv_at hl 1 rfl) ?_
        refine lv_aload_n G.1 G.2.1 dX5_allCycles_13 rfl (lv_at hl 0 rfl) ?_
        refine g_getC G hw C_4 (iC_4 hv_p0) 1 32 rfl (by decide) rfl fl_X5_24 dX5_allCycles_14 ?_
        refine lv_iload_n G.1 G.2.1 dX5_allCycles_17 rfl (lv_at hl 2 rfl) ?_
        obtain ⟨j4, hj4, hf⟩ := bd_some hf
        refine g_bald G hw (iC_32 hv_p0) (by decide) rfl hj4 dX5_allCycles_18 ?_
        refine g_getI G hw C_0 (iC_0 (v_0 hv_p0 hj4)) 6 rfl fl_X5_47 dX5_allCycles_19 ?_
        refine lv_iadd G.1 G.2.1 dX5_allCycles_22 ?_
        refine lv_istore_n (lv' := [(1, .int (x2 + (gI g 0 (175 * p0 + j4) 6))), (0, .ref (E.1 4 p0)), (2, .int x3)]) G.1 G.2.1 dX5_allCycles_23 rfl hl (by decide) rfl (fun ls hl => ?_)
        refine lv_iinc (v := x3 + 1) (lv' := [(2, .int (x3 + 1)), (1, .int (x2 + (gI g 0 (175 * p0 + j4) 6))), (0, .ref (E.1 4 p0))]) G.1 G.2.1 dX5_allCycles_24 hl (k := 2) rfl rfl (by decide) rfl (fun ls hl => ?_)
        refine lv_goto (tgt := 4) G.1 G.2.1 dX5_allCycles_27 (by decide) ?_
        exact ih1 (x2 + (gI g 0 (175 * p0 + j4) 6)) (x3 + 1) _ _ _ ls hf hw (lv_sub hl [2, 1, 0] rfl) hk1_0
  obtain ⟨r5, hr5, hf⟩ := bd_some hf
  refine hL4 n (0 : Int32) (0 : Int32) r5 _ _ ls hr5 hw (lv_sub hl [2, 1, 0] rfl) ?_
  intro H locs ls hw hl
  refine lv_iload_n G.1 G.2.1 dX5_allCycles_30 rfl (lv_at hl 0 rfl) ?_
  exact g_iretR G hr hk hf hw dX5_allCycles_31

set_option maxHeartbeats 4000000 in
set_option maxRecDepth 100000 in
theorem c_Pg_usedRegisters (l : Launch) (D : va_G) (X : va_W) (E : gE) (n : Nat) (p0 : Nat) (hv_p0 : p0 < 2) (g : Mem) (r : Int32) (hf : Pg_usedRegisters n p0 g = some r) : gMet l yX5_usedRegisters cX5_usedRegisters 3 (some .int) 1 24 D X idsC E [.ref (E.1 4 p0)] g (some (.int r)) g := by
  rw [Pg_usedRegisters] at hf
  refine gt_code (by decide) (Nat.le_of_ble_eq_true rfl) (fun p en s m below meth c ls G hr hk hw hl => ?_)
  have hl : lv_has ls 3 [(0, .ref (E.1 4 p0))] := hl
  refine lv_iconst (v := (-1 : Int32)) G.1 G.2.1 dX5_usedRegisters_0 (by decide) ?_
  refine lv_istore_n (lv' := [(1, .int (-1 : Int32)), (0, .ref (E.1 4 p0))]) G.1 G.2.1 dX5_usedRegisters_1 rfl hl (by decide) rfl (fun ls hl => ?_)
  refine lv_iconst (v := (0 : Int32)) G.1 G.2.1 dX5_usedRegisters_2 (by decide) ?_
  refine lv_istore_n (lv' := [(2, .int (0 : Int32)), (1, .int (-1 : Int32)), (0, .ref (E.1 4 p0))]) G.1 G.2.1 dX5_usedRegisters_3 rfl hl (by decide) rfl (fun ls hl => ?_)
  have hL4 : ∀ (k1 : Nat) (x2 : Int32) (x3 : Int32) (res1 : Int32) (H : Heap) (locs : List Loc) (ls : Array Slot), Pg_usedRegisters_L4 n g p0 k1 x2 x3 = some res1 → GW D X idsC E (gA X idsC E s.heap.size) s g H locs → lv_has ls 3 [(0, .ref (E.1 4 p0)), (1, .int x2), (2, .int x3)] → (∀ (H : Heap) (locs : List Loc) (ls : Array Slot), GW D X idsC E (gA X idsC E s.heap.size) s g H locs → lv_has ls 3 [(1, .int res1)] → W p l en { frames := 1, cells := 0, slots := 0, locals := 24 } s m [.ref (E.1 4 p0)].toArray below meth c H locs 0 0 (MQ below (gQ (some (.int r)) (GP D X idsC E g) (gA X idsC E s.heap.size)) [.ref (E.1 4 p0)].toArray s 0 0 (gA X idsC E s.heap.size)) (F0 m 32 ls [])) → W p l en { frames := 1, cells := 0, slots := 0, locals := 24 } s m [.ref (E.1 4 p0)].toArray below meth c H locs 0 0 (MQ below (gQ (some (.int r)) (GP D X idsC E g) (gA X idsC E s.heap.size)) [.ref (E.1 4 p0)].toArray s 0 0 (gA X idsC E s.heap.size)) (F0 m 4 ls []) := by
    intro k1
    induction k1 with
    | zero => intro x2 x3 res1 H locs ls hf; rw [Pg_usedRegisters_L4] at hf; cases hf
    | succ k1 ih1 =>
      intro x2 x3 res1 H locs ls hf hw hl hk1_0
      rw [Pg_usedRegisters_L4] at hf
      refine lv_iload_n G.1 G.2.1 dX5_usedRegisters_4 rfl (lv_at hl 2 rfl) ?_
      refine lv_aload_n G.1 G.2.1 dX5_usedRegisters_5 rfl (lv_at hl 0 rfl) ?_
      refine g_getI G hw C_4 (iC_4 hv_p0) 2 rfl fl_X5_29 dX5_usedRegisters_6 ?_
      refine lv_icmp_ge (tgt := 32) G.1 G.2.1 dX5_usedRegisters_9 (by decide) (fun hc9 => ?_) (fun hc9 => ?_)
      · rw [if_pos hc9] at hf
        obtain rfl := Option.some.inj hf
        exact hk1_0 _ _ ls hw (lv_sub hl [1] rfl)
      · rw [if_neg hc9] at hf
        refine lv_iload_n G.1 G.2.1 dX5_usedRegisters_12 rfl (lv_at hl 1 rfl) ?_
        refine lv_aload_n G.1 G.2.1 dX5_usedRegisters_13 rfl (lv_at hl 0 rfl) ?_
        refine g_getC G hw C_4 (iC_4 hv_p0) 0 31 rfl (by decide) rfl fl_X5_11 dX5_usedRegisters_14 ?_
        refine lv_iload_n G.1 G.2.1 dX5_usedRegisters_17 rfl (lv_at hl 2 rfl) ?_
        obtain ⟨j4, hj4, hf⟩ := bd_some hf
        refine g_oald G hw (iC_31 hv_p0) (by decide) rfl hj4 dX5_usedRegisters_18 ?_
        refine g_getI G hw C_3 (iC_3 (v_3 hv_p0 hj4)) 11 rfl fl_X5_50 dX5_usedRegisters_19 ?_
        refine g_max G hl.1 mm_X5_53 (Nat.le_of_ble_eq_true rfl) dX5_usedRegisters_22 ?_
        refine lv_istore_n (lv' := [(1, .int (imax x2 (gI g 3 (200 * p0 + j4) 11))), (0, .ref (E.1 4 p0)), (2, .int x3)]) G.1 G.2.1 dX5_usedRegisters_25 rfl hl (by decide) rfl (fun ls hl => ?_)
        refine lv_iinc (v := x3 + 1) (lv' := [(2, .int (x3 + 1)), (1, .int (imax x2 (gI g 3 (200 * p0 + j4) 11))), (0, .ref (E.1 4 p0))]) G.1 G.2.1 dX5_usedRegisters_26 hl (k := 2) rfl rfl (by decide) rfl (fun ls hl => ?_)
        refine lv_goto (tgt := 4) G.1 G.2.1 dX5_usedRegisters_29 (by decide) ?_
        exact ih1 (imax x2 (gI g 3 (200 * p0 + j4) 11)) (x3 + 1) _ _ _ ls hf hw (lv_sub hl [2, 1, 0] rfl) hk1_0
  obtain ⟨r5, hr5, hf⟩ := bd_some hf
  refine hL4 n (-1 : Int32) (0 : Int32) r5 _ _ ls hr5 hw (lv_sub hl [2, 1, 0] rfl) ?_
  intro H locs ls hw hl
  refine lv_iload_n G.1 G.2.1 dX5_usedRegisters_32 rfl (lv_at hl 0 rfl) ?_
  refine lv_iconst (v := (1 : Int32)) G.1 G.2.1 dX5_usedRegisters_33 (by decide) ?_
  refine lv_iadd G.1 G.2.1 dX5_usedRegisters_34 ?_
  exact g_iretR G hr hk hf hw dX5_usedRegisters_35

set_option maxHeartbeats 4000000 in
set_option maxRecDepth 100000 in
theorem c_Pg_usedUnits (l : Launch) (D : va_G) (X : va_W) (E : gE) (n : Nat) (p0 : Nat) (a1 : Int32) (hv_p0 : p0 < 2) (g : Mem) (r : Int32) (hf : Pg_usedUnits n p0 a1 g = some r) : gMet l yX5_usedUnits cX5_usedUnits 4 (some .int) 1 24 D X idsC E [.ref (E.1 4 p0), .int a1] g (some (.int r)) g := by
  rw [Pg_usedUnits] at hf
  refine gt_code (by decide) (Nat.le_of_ble_eq_true rfl) (fun p en s m below meth c ls G hr hk hw hl => ?_)
  have hl : lv_has ls 4 [(0, .ref (E.1 4 p0)), (1, .int a1)] := hl
  refine lv_iconst (v := (-1 : Int32)) G.1 G.2.1 dX5_usedUnits_0 (by decide) ?_
  refine lv_istore_n (lv' := [(2, .int (-1 : Int32)), (0, .ref (E.1 4 p0)), (1, .int a1)]) G.1 G.2.1 dX5_usedUnits_1 rfl hl (by decide) rfl (fun ls hl => ?_)
  refine lv_iconst (v := (0 : Int32)) G.1 G.2.1 dX5_usedUnits_2 (by decide) ?_
  refine lv_istore_n (lv' := [(3, .int (0 : Int32)), (2, .int (-1 : Int32)), (0, .ref (E.1 4 p0)), (1, .int a1)]) G.1 G.2.1 dX5_usedUnits_3 rfl hl (by decide) rfl (fun ls hl => ?_)
  have hL4 : ∀ (k1 : Nat) (x2 : Int32) (x3 : Int32) (res1 : Int32) (H : Heap) (locs : List Loc) (ls : Array Slot), Pg_usedUnits_L4 n a1 g p0 k1 x2 x3 = some res1 → GW D X idsC E (gA X idsC E s.heap.size) s g H locs → lv_has ls 4 [(0, .ref (E.1 4 p0)), (1, .int a1), (2, .int x2), (3, .int x3)] → (∀ (H : Heap) (locs : List Loc) (ls : Array Slot), GW D X idsC E (gA X idsC E s.heap.size) s g H locs → lv_has ls 4 [(2, .int res1)] → W p l en { frames := 1, cells := 0, slots := 0, locals := 24 } s m [.ref (E.1 4 p0), .int a1].toArray below meth c H locs 0 0 (MQ below (gQ (some (.int r)) (GP D X idsC E g) (gA X idsC E s.heap.size)) [.ref (E.1 4 p0), .int a1].toArray s 0 0 (gA X idsC E s.heap.size)) (F0 m 45 ls [])) → W p l en { frames := 1, cells := 0, slots := 0, locals := 24 } s m [.ref (E.1 4 p0), .int a1].toArray below meth c H locs 0 0 (MQ below (gQ (some (.int r)) (GP D X idsC E g) (gA X idsC E s.heap.size)) [.ref (E.1 4 p0), .int a1].toArray s 0 0 (gA X idsC E s.heap.size)) (F0 m 4 ls []) := by
    intro k1
    induction k1 with
    | zero => intro x2 x3 res1 H locs ls hf; rw [Pg_usedUnits_L4] at hf; cases hf
    | succ k1 ih1 =>
      intro x2 x3 res1 H locs ls hf hw hl hk1_0
      rw [Pg_usedUnits_L4] at hf
      refine lv_iload_n G.1 G.2.1 dX5_usedUnits_4 rfl (lv_at hl 3 rfl) ?_
      refine lv_aload_n G.1 G.2.1 dX5_usedUnits_5 rfl (lv_at hl 0 rfl) ?_
      refine g_getI G hw C_4 (iC_4 hv_p0) 2 rfl fl_X5_29 dX5_usedUnits_6 ?_
      refine lv_icmp_ge (tgt := 45) G.1 G.2.1 dX5_usedUnits_9 (by decide) (fun hc9 => ?_) (fun hc9 => ?_)
      · rw [if_pos hc9] at hf
        obtain rfl := Option.some.inj hf
        exact hk1_0 _ _ ls hw (lv_sub hl [2] rfl)
      · rw [if_neg hc9] at hf
        refine lv_aload_n G.1 G.2.1 dX5_usedUnits_12 rfl (lv_at hl 0 rfl) ?_
        refine g_getC G hw C_4 (iC_4 hv_p0) 0 31 rfl (by decide) rfl fl_X5_11 dX5_usedUnits_13 ?_
        refine lv_iload_n G.1 G.2.1 dX5_usedUnits_16 rfl (lv_at hl 3 rfl) ?_
        obtain ⟨j4, hj4, hf⟩ := bd_some hf
        refine g_oald G hw (iC_31 hv_p0) (by decide) rfl hj4 dX5_usedUnits_17 ?_
        refine g_getI G hw C_3 (iC_3 (v_3 hv_p0 hj4)) 2 rfl fl_X5_59 dX5_usedUnits_18 ?_
        refine lv_iload_n G.1 G.2.1 dX5_usedUnits_21 rfl (lv_at hl 1 rfl) ?_
        refine lv_icmp_ne (tgt := 39) G.1 G.2.1 dX5_usedUnits_22 (by decide) (fun hc22 => ?_) (fun hc22 => ?_)
        · rw [if_neg hc22] at hf
          refine lv_iinc (v := x3 + 1) (lv' := [(3, .int (x3 + 1)), (0, .ref (E.1 4 p0)), (1, .int a1), (2, .int x2)]) G.1 G.2.1 dX5_usedUnits_39 hl (k := 3) rfl rfl (by decide) rfl (fun ls hl => ?_)
          refine lv_goto (tgt := 4) G.1 G.2.1 dX5_usedUnits_42 (by decide) ?_
          exact ih1 x2 (x3 + 1) _ _ _ ls hf hw (lv_sub hl [1, 2, 3, 0] rfl) hk1_0
        · rw [if_pos hc22] at hf
          refine lv_iload_n G.1 G.2.1 dX5_usedUnits_25 rfl (lv_at hl 2 rfl) ?_
          refine lv_aload_n G.1 G.2.1 dX5_usedUnits_26 rfl (lv_at hl 0 rfl) ?_
          refine g_getC G hw C_4 (iC_4 hv_p0) 0 31 rfl (by decide) rfl fl_X5_11 dX5_usedUnits_27 ?_
          refine lv_iload_n G.1 G.2.1 dX5_usedUnits_30 rfl (lv_at hl 3 rfl) ?_
          obtain ⟨j5, hj5, hf⟩ := bd_some hf
          refine g_oald G hw (iC_31 hv_p0) (by decide) rfl hj5 dX5_usedUnits_31 ?_
          refine g_getI G hw C_3 (iC_3 (v_3 hv_p0 hj5)) 10 rfl fl_X5_62 dX5_usedUnits_32 ?_
          refine g_max G hl.1 mm_X5_53 (Nat.le_of_ble_eq_true rfl) dX5_usedUnits_35 ?_
          refine lv_istore_n (lv' := [(2, .int (imax x2 (gI g 3 (200 * p0 + j5) 10))), (0, .ref (E.1 4 p0)), (1, .int a1), (3, .int x3)]) G.1 G.2.1 dX5_usedUnits_38 rfl hl (by decide) rfl (fun ls hl => ?_)
          refine lv_iinc (v := x3 + 1) (lv' := [(3, .int (x3 + 1)), (2, .int (imax x2 (gI g 3 (200 * p0 + j5) 10))), (0, .ref (E.1 4 p0)), (1, .int a1)]) G.1 G.2.1 dX5_usedUnits_39 hl (k := 3) rfl rfl (by decide) rfl (fun ls hl => ?_)
          refine lv_goto (tgt := 4) G.1 G.2.1 dX5_usedUnits_42 (by decide) ?_
          exact ih1 (imax x2 (gI g 3 (200 * p0 + j5) 10)) (x3 + 1) _ _ _ ls hf hw (lv_sub hl [2, 3, 1, 0] rfl) hk1_0
  obtain ⟨r6, hr6, hf⟩ := bd_some hf
  refine hL4 n (-1 : Int32) (0 : Int32) r6 _ _ ls hr6 hw (lv_sub hl [2, 3, 1, 0] rfl) ?_
  intro H locs ls hw hl
  refine lv_iload_n G.1 G.2.1 dX5_usedUnits_45 rfl (lv_at hl 0 rfl) ?_
  refine lv_iconst (v := (1 : Int32)) G.1 G.2.1 dX5_usedUnits_46 (by decide) ?_
  refine lv_iadd G.1 G.2.1 dX5_usedUnits_47 ?_
  exact g_iretR G hr hk hf hw dX5_usedUnits_48

set_option maxHeartbeats 4000000 in
set_option maxRecDepth 100000 in
theorem c_Tp_append (l : Launch) (D : va_G) (X : va_W) (E : gE) (n : Nat) (a1 : Int32) (a2 : Int64) (g : Mem) (r : Int32) (g' : Mem) (hf : Tp_append n a1 a2 g = some (r, g')) : gMet l yX7_append cX7_append 5 (some .boolean) 0 0 D X idsC E [.ref (E.1 6 0), .int a1, .long a2] g (some (.int r)) g' := by
  rw [Tp_append] at hf
  refine gt_code (by decide) (Nat.le_of_ble_eq_true rfl) (fun p en s m below meth c ls G hr hk hw hl => ?_)
  have hl : lv_has ls 5 [(0, .ref (E.1 6 0)), (1, .int a1), (2, .long a2)] := hl
  refine lv_aload_n G.1 G.2.1 dX7_append_0 rfl (lv_at hl 0 rfl) ?_
  refine g_getI G hw C_6 iC_6 1 rfl fl_X7_15 dX7_append_1 ?_
  refine lv_iload_n G.1 G.2.1 dX7_append_4 rfl (lv_at hl 1 rfl) ?_
  refine lv_iadd G.1 G.2.1 dX7_append_5 ?_
  refine lv_sipush (v := (700 : Int32)) G.1 G.2.1 dX7_append_6 (by decide) ?_
  refine lv_icmp_le (tgt := 14) G.1 G.2.1 dX7_append_9 (by decide) (fun hc9 => ?_) (fun hc9 => ?_)
  · rw [if_pos hc9] at hf
    refine lv_iconst (v := (0 : Int32)) G.1 G.2.1 dX7_append_14 (by decide) ?_
    refine lv_istore (lv' := [(4, .int (0 : Int32)), (0, .ref (E.1 6 0)), (1, .int a1), (2, .long a2)]) G.1 G.2.1 dX7_append_15 hl (by decide) rfl (fun ls hl => ?_)
    have hL17 : ∀ (k1 : Nat) (x2 : Int32) (g3 : Mem) (res1 : Mem) (H : Heap) (locs : List Loc) (ls : Array Slot), Tp_append_L17 n a1 a2 k1 x2 g3 = some res1 → GW D X idsC E (gA X idsC E s.heap.size) s g3 H locs → lv_has ls 5 [(0, .ref (E.1 6 0)), (1, .int a1), (2, .long a2), (4, .int x2)] → (∀ (H : Heap) (locs : List Loc) (ls : Array Slot), GW D X idsC E (gA X idsC E s.heap.size) s res1 H locs → lv_has ls 5 [(0, .ref (E.1 6 0)), (1, .int a1)] → W p l en { frames := 0, cells := 0, slots := 0, locals := 0 } s m [.ref (E.1 6 0), .int a1, .long a2].toArray below meth c H locs 0 0 (MQ below (gQ (some (.int r)) (GP D X idsC E g') (gA X idsC E s.heap.size)) [.ref (E.1 6 0), .int a1, .long a2].toArray s 0 0 (gA X idsC E s.heap.size)) (F0 m 53 ls [])) → W p l en { frames := 0, cells := 0, slots := 0, locals := 0 } s m [.ref (E.1 6 0), .int a1, .long a2].toArray below meth c H locs 0 0 (MQ below (gQ (some (.int r)) (GP D X idsC E g') (gA X idsC E s.heap.size)) [.ref (E.1 6 0), .int a1, .long a2].toArray s 0 0 (gA X idsC E s.heap.size)) (F0 m 17 ls []) := by
      intro k1
      induction k1 with
      | zero => intro x2 g3 res1 H locs ls hf; rw [Tp_append_L17] at hf; cases hf
      | succ k1 ih1 =>
        intro x2 g3 res1 H locs ls hf hw hl hk1_0
        rw [Tp_append_L17] at hf
        refine lv_iload G.1 G.2.1 dX7_append_17 (lv_at hl 3 rfl) ?_
        refine lv_iload_n G.1 G.2.1 dX7_append_19 rfl (lv_at hl 1 rfl) ?_
        refine lv_icmp_ge (tgt := 53) G.1 G.2.1 dX7_append_20 (by decide) (fun hc20 => ?_) (fun hc20 => ?_)
        · rw [if_pos hc20] at hf
          obtain rfl := Option.some.inj hf
          exact hk1_0 _ _ ls hw (lv_sub hl [0, 1] rfl)
        · rw [if_neg hc20] at hf
          refine lv_aload_n G.1 G.2.1 dX7_append_23 rfl (lv_at hl 0 rfl) ?_
          refine g_getC G hw C_6 iC_6 0 20 rfl (by decide) rfl fl_X7_9 dX7_append_24 ?_
          refine lv_aload_n G.1 G.2.1 dX7_append_27 rfl (lv_at hl 0 rfl) ?_
          refine g_getI G hw C_6 iC_6 1 rfl fl_X7_15 dX7_append_28 ?_
          refine lv_iload G.1 G.2.1 dX7_append_31 (lv_at hl 3 rfl) ?_
          refine lv_iadd G.1 G.2.1 dX7_append_33 ?_
          refine lv_lload_n G.1 G.2.1 dX7_append_34 rfl (lv_at hl 2 rfl) ?_
          refine lv_bipush (v := (8 : Int32)) G.1 G.2.1 dX7_append_35 (by decide) ?_
          refine lv_iload G.1 G.2.1 dX7_append_37 (lv_at hl 3 rfl) ?_
          refine lv_imul G.1 G.2.1 dX7_append_39 ?_
          refine lv_lshr G.1 G.2.1 dX7_append_40 rfl ?_
          refine lv_l2i G.1 G.2.1 dX7_append_41 rfl ?_
          refine lv_sipush (v := (255 : Int32)) G.1 G.2.1 dX7_append_42 (by decide) ?_
          refine lv_iand G.1 G.2.1 dX7_append_45 ?_
          obtain ⟨j4, hj4, hf⟩ := bd_some hf
          obtain ⟨g5, eg5, hf⟩ := lt9_some hf
          refine g_iast G hw iC_20 (by decide) rfl hj4 dX7_append_46 (fun H locs hw => ?_)
          rw [← eg5] at hw
          refine lv_iinc (v := x2 + 1) (lv' := [(4, .int (x2 + 1)), (0, .ref (E.1 6 0)), (1, .int a1), (2, .long a2)]) G.1 G.2.1 dX7_append_47 hl (k := 3) rfl rfl (by decide) rfl (fun ls hl => ?_)
          refine lv_goto (tgt := 17) G.1 G.2.1 dX7_append_50 (by decide) ?_
          exact ih1 (x2 + 1) g5 _ _ _ ls hf hw (lv_sub hl [1, 2, 3, 0] rfl) hk1_0
    obtain ⟨r6, hr6, hf⟩ := bd_some hf
    refine hL17 n (0 : Int32) g r6 _ _ ls hr6 hw (lv_sub hl [1, 2, 3, 0] rfl) ?_
    intro H locs ls hw hl
    refine lv_aload_n G.1 G.2.1 dX7_append_53 rfl (lv_at hl 0 rfl) ?_
    refine lv_dup G.1 G.2.1 dX7_append_54 rfl ?_
    refine g_getI G hw C_6 iC_6 1 rfl fl_X7_15 dX7_append_55 ?_
    refine lv_iload_n G.1 G.2.1 dX7_append_58 rfl (lv_at hl 1 rfl) ?_
    refine lv_iadd G.1 G.2.1 dX7_append_59 ?_
    obtain ⟨g7, eg7, hf⟩ := lt9_some hf
    refine g_putI G hw C_6 iC_6 1 rfl fl_X7_15 rfl rfl rfl dX7_append_60 (fun H locs hw => ?_)
    rw [← eg7] at hw
    refine lv_iconst (v := (1 : Int32)) G.1 G.2.1 dX7_append_63 (by decide) ?_
    exact g_zretW G hr rfl hk hf hw dX7_append_64
  · rw [if_neg hc9] at hf
    refine lv_iconst (v := (0 : Int32)) G.1 G.2.1 dX7_append_12 (by decide) ?_
    exact g_zretW G hr rfl hk hf hw dX7_append_13

set_option maxHeartbeats 4000000 in
set_option maxRecDepth 100000 in
theorem c_Tp_clear (l : Launch) (D : va_G) (X : va_W) (E : gE) (n : Nat) (g : Mem) (r : Int32) (g' : Mem) (hf : Tp_clear n g = some (r, g')) : gMet l yX7_clear cX7_clear 2 (some .int) 0 0 D X idsC E [.ref (E.1 6 0)] g (some (.int r)) g' := by
  rw [Tp_clear] at hf
  refine gt_code (by decide) (Nat.le_of_ble_eq_true rfl) (fun p en s m below meth c ls G hr hk hw hl => ?_)
  have hl : lv_has ls 2 [(0, .ref (E.1 6 0))] := hl
  refine lv_aload_n G.1 G.2.1 dX7_clear_0 rfl (lv_at hl 0 rfl) ?_
  refine g_getI G hw C_6 iC_6 1 rfl fl_X7_15 dX7_clear_1 ?_
  refine lv_istore_n (lv' := [(1, .int (gI g 6 0 1)), (0, .ref (E.1 6 0))]) G.1 G.2.1 dX7_clear_4 rfl hl (by decide) rfl (fun ls hl => ?_)
  refine lv_aload_n G.1 G.2.1 dX7_clear_5 rfl (lv_at hl 1 rfl) ?_
  refine lv_iconst (v := (0 : Int32)) G.1 G.2.1 dX7_clear_6 (by decide) ?_
  obtain ⟨g1, eg1, hf⟩ := lt9_some hf
  refine g_putI G hw C_6 iC_6 1 rfl fl_X7_15 rfl rfl rfl dX7_clear_7 (fun H locs hw => ?_)
  rw [← eg1] at hw
  refine lv_iload_n G.1 G.2.1 dX7_clear_10 rfl (lv_at hl 0 rfl) ?_
  exact g_iretW G hr hk hf hw dX7_clear_11
end
