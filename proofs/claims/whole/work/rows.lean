section
-- ===== PART A: goes FIRST, ahead of the names: the tables' words, and 'selects' of the private methods out of them =====
/-- a private method of a class that the tables say can be made, by its rows of tables_1 -/
def lw_okq (q : MethodName × Nat) : Prop := (q.1.cls ≠ "java/lang/invoke/MethodHandle" ∧ q.1.cls ≠ "java/lang/invoke/VarHandle") ∧ Cond.instantiable q.1.cls q.2 ∈ tables_1 ∧ Cond.privateMethod q.1 ∈ tables_1 ∧ Cond.instanceMethod q.1 ∈ tables_1
theorem lw_p0 : lw_okq (⟨"TurtleDesk$Reader", "begin", "(LTurtleDesk$Program;)V"⟩, 9) := ⟨⟨by decide +kernel, by decide +kernel⟩, List.mem_of_getElem? (i := 35) (by decide +kernel), List.mem_of_getElem? (i := 423) (by decide +kernel), List.mem_of_getElem? (i := 424) (by decide +kernel)⟩
theorem lw_p1 : lw_okq (⟨"TurtleDesk$Tokens", "takeWord", "([CII)I"⟩, 8) := ⟨⟨by decide +kernel, by decide +kernel⟩, List.mem_of_getElem? (i := 41) (by decide +kernel), List.mem_of_getElem? (i := 442) (by decide +kernel), List.mem_of_getElem? (i := 443) (by decide +kernel)⟩
theorem lw_p2 : lw_okq (⟨"TurtleDesk$Tokens", "kindOfWord", "(J)I"⟩, 8) := ⟨⟨by decide +kernel, by decide +kernel⟩, List.mem_of_getElem? (i := 41) (by decide +kernel), List.mem_of_getElem? (i := 449) (by decide +kernel), List.mem_of_getElem? (i := 450) (by decide +kernel)⟩
theorem lw_p3 : lw_okq (⟨"TurtleDesk$Tokens", "add", "(II)V"⟩, 8) := ⟨⟨by decide +kernel, by decide +kernel⟩, List.mem_of_getElem? (i := 41) (by decide +kernel), List.mem_of_getElem? (i := 453) (by decide +kernel), List.mem_of_getElem? (i := 454) (by decide +kernel)⟩
theorem lw_p4 : lw_okq (⟨"TurtleDesk$Tokens", "takeNumber", "([CII)I"⟩, 8) := ⟨⟨by decide +kernel, by decide +kernel⟩, List.mem_of_getElem? (i := 41) (by decide +kernel), List.mem_of_getElem? (i := 460) (by decide +kernel), List.mem_of_getElem? (i := 461) (by decide +kernel)⟩
theorem lw_p5 : lw_okq (⟨"TurtleDesk$Reader", "refuse", "(I)V"⟩, 9) := ⟨⟨by decide +kernel, by decide +kernel⟩, List.mem_of_getElem? (i := 35) (by decide +kernel), List.mem_of_getElem? (i := 531) (by decide +kernel), List.mem_of_getElem? (i := 532) (by decide +kernel)⟩
theorem lw_p6 : lw_okq (⟨"java/lang/Throwable", "fillInStackTrace", "(I)Ljava/lang/Throwable;"⟩, 6) := ⟨⟨by decide +kernel, by decide +kernel⟩, List.mem_of_getElem? (i := 573) (by decide +kernel), List.mem_of_getElem? (i := 571) (by decide +kernel), List.mem_of_getElem? (i := 572) (by decide +kernel)⟩
theorem lw_p7 : lw_okq (⟨"TurtleDesk$Reader", "readAll", "(II)LTurtleDesk$Statement;"⟩, 9) := ⟨⟨by decide +kernel, by decide +kernel⟩, List.mem_of_getElem? (i := 35) (by decide +kernel), List.mem_of_getElem? (i := 602) (by decide +kernel), List.mem_of_getElem? (i := 603) (by decide +kernel)⟩
theorem lw_p8 : lw_okq (⟨"TurtleDesk$Reader", "here", "()I"⟩, 9) := ⟨⟨by decide +kernel, by decide +kernel⟩, List.mem_of_getElem? (i := 35) (by decide +kernel), List.mem_of_getElem? (i := 606) (by decide +kernel), List.mem_of_getElem? (i := 607) (by decide +kernel)⟩
theorem lw_p9 : lw_okq (⟨"TurtleDesk$Reader", "readStatement", "(I)LTurtleDesk$Statement;"⟩, 9) := ⟨⟨by decide +kernel, by decide +kernel⟩, List.mem_of_getElem? (i := 35) (by decide +kernel), List.mem_of_getElem? (i := 614) (by decide +kernel), List.mem_of_getElem? (i := 615) (by decide +kernel)⟩
theorem lw_p10 : lw_okq (⟨"TurtleDesk$Reader", "readSum", "(I)V"⟩, 9) := ⟨⟨by decide +kernel, by decide +kernel⟩, List.mem_of_getElem? (i := 35) (by decide +kernel), List.mem_of_getElem? (i := 693) (by decide +kernel), List.mem_of_getElem? (i := 694) (by decide +kernel)⟩
theorem lw_p11 : lw_okq (⟨"TurtleDesk$Reader", "readProduct", "(I)V"⟩, 9) := ⟨⟨by decide +kernel, by decide +kernel⟩, List.mem_of_getElem? (i := 35) (by decide +kernel), List.mem_of_getElem? (i := 697) (by decide +kernel), List.mem_of_getElem? (i := 698) (by decide +kernel)⟩
theorem lw_p12 : lw_okq (⟨"TurtleDesk$Reader", "readFactor", "(I)V"⟩, 9) := ⟨⟨by decide +kernel, by decide +kernel⟩, List.mem_of_getElem? (i := 35) (by decide +kernel), List.mem_of_getElem? (i := 701) (by decide +kernel), List.mem_of_getElem? (i := 702) (by decide +kernel)⟩
theorem lw_p13 : lw_okq (⟨"TurtleDesk$Reader", "isParameterHere", "()Z"⟩, 9) := ⟨⟨by decide +kernel, by decide +kernel⟩, List.mem_of_getElem? (i := 35) (by decide +kernel), List.mem_of_getElem? (i := 717) (by decide +kernel), List.mem_of_getElem? (i := 718) (by decide +kernel)⟩
theorem lw_p14 : lw_okq (⟨"TurtleDesk$Reader", "numberHere", "()I"⟩, 9) := ⟨⟨by decide +kernel, by decide +kernel⟩, List.mem_of_getElem? (i := 35) (by decide +kernel), List.mem_of_getElem? (i := 729) (by decide +kernel), List.mem_of_getElem? (i := 730) (by decide +kernel)⟩
theorem lw_p15 : lw_okq (⟨"TurtleDesk$Reader", "refuseHere", "()V"⟩, 9) := ⟨⟨by decide +kernel, by decide +kernel⟩, List.mem_of_getElem? (i := 35) (by decide +kernel), List.mem_of_getElem? (i := 737) (by decide +kernel), List.mem_of_getElem? (i := 738) (by decide +kernel)⟩
def lw_privs_1 : List (MethodName × Nat) := [(⟨"TurtleDesk$Reader", "begin", "(LTurtleDesk$Program;)V"⟩, 9), (⟨"TurtleDesk$Tokens", "takeWord", "([CII)I"⟩, 8), (⟨"TurtleDesk$Tokens", "kindOfWord", "(J)I"⟩, 8), (⟨"TurtleDesk$Tokens", "add", "(II)V"⟩, 8), (⟨"TurtleDesk$Tokens", "takeNumber", "([CII)I"⟩, 8), (⟨"TurtleDesk$Reader", "refuse", "(I)V"⟩, 9), (⟨"java/lang/Throwable", "fillInStackTrace", "(I)Ljava/lang/Throwable;"⟩, 6), (⟨"TurtleDesk$Reader", "readAll", "(II)LTurtleDesk$Statement;"⟩, 9), (⟨"TurtleDesk$Reader", "here", "()I"⟩, 9), (⟨"TurtleDesk$Reader", "readStatement", "(I)LTurtleDesk$Statement;"⟩, 9), (⟨"TurtleDesk$Reader", "readSum", "(I)V"⟩, 9), (⟨"TurtleDesk$Reader", "readProduct", "(I)V"⟩, 9), (⟨"TurtleDesk$Reader", "readFactor", "(I)V"⟩, 9), (⟨"TurtleDesk$Reader", "isParameterHere", "()Z"⟩, 9), (⟨"TurtleDesk$Reader", "numberHere", "()I"⟩, 9), (⟨"TurtleDesk$Reader", "refuseHere", "()V"⟩, 9)]
theorem lw_r1 : ∀ q ∈ lw_privs_1, lw_okq q := List.forall_mem_cons.mpr ⟨lw_p0, List.forall_mem_cons.mpr ⟨lw_p1, List.forall_mem_cons.mpr ⟨lw_p2, List.forall_mem_cons.mpr ⟨lw_p3, List.forall_mem_cons.mpr ⟨lw_p4, List.forall_mem_cons.mpr ⟨lw_p5, List.forall_mem_cons.mpr ⟨lw_p6, List.forall_mem_cons.mpr ⟨lw_p7, List.forall_mem_cons.mpr ⟨lw_p8, List.forall_mem_cons.mpr ⟨lw_p9, List.forall_mem_cons.mpr ⟨lw_p10, List.forall_mem_cons.mpr ⟨lw_p11, List.forall_mem_cons.mpr ⟨lw_p12, List.forall_mem_cons.mpr ⟨lw_p13, List.forall_mem_cons.mpr ⟨lw_p14, List.forall_mem_cons.mpr ⟨lw_p15, fun _ h => absurd h List.not_mem_nil⟩⟩⟩⟩⟩⟩⟩⟩⟩⟩⟩⟩⟩⟩⟩⟩
theorem lw_p16 : lw_okq (⟨"TurtleDesk$Reader", "expect", "(I)V"⟩, 9) := ⟨⟨by decide +kernel, by decide +kernel⟩, List.mem_of_getElem? (i := 35) (by decide +kernel), List.mem_of_getElem? (i := 746) (by decide +kernel), List.mem_of_getElem? (i := 747) (by decide +kernel)⟩
theorem lw_p17 : lw_okq (⟨"TurtleDesk$Reader", "readLet", "(LTurtleDesk$Statement;)V"⟩, 9) := ⟨⟨by decide +kernel, by decide +kernel⟩, List.mem_of_getElem? (i := 35) (by decide +kernel), List.mem_of_getElem? (i := 750) (by decide +kernel), List.mem_of_getElem? (i := 751) (by decide +kernel)⟩
theorem lw_p18 : lw_okq (⟨"TurtleDesk$Reader", "readCondition", "()V"⟩, 9) := ⟨⟨by decide +kernel, by decide +kernel⟩, List.mem_of_getElem? (i := 35) (by decide +kernel), List.mem_of_getElem? (i := 754) (by decide +kernel), List.mem_of_getElem? (i := 755) (by decide +kernel)⟩
theorem lw_p19 : lw_okq (⟨"TurtleDesk$Reader", "readCall", "(LTurtleDesk$Statement;)V"⟩, 9) := ⟨⟨by decide +kernel, by decide +kernel⟩, List.mem_of_getElem? (i := 35) (by decide +kernel), List.mem_of_getElem? (i := 761) (by decide +kernel), List.mem_of_getElem? (i := 762) (by decide +kernel)⟩
theorem lw_p20 : lw_okq (⟨"TurtleDesk$Reader", "readDefinition", "(LTurtleDesk$Statement;)V"⟩, 9) := ⟨⟨by decide +kernel, by decide +kernel⟩, List.mem_of_getElem? (i := 35) (by decide +kernel), List.mem_of_getElem? (i := 765) (by decide +kernel), List.mem_of_getElem? (i := 766) (by decide +kernel)⟩
theorem lw_p21 : lw_okq (⟨"TurtleDesk$Reader", "definitionOf", "(J)LTurtleDesk$Statement;"⟩, 9) := ⟨⟨by decide +kernel, by decide +kernel⟩, List.mem_of_getElem? (i := 35) (by decide +kernel), List.mem_of_getElem? (i := 769) (by decide +kernel), List.mem_of_getElem? (i := 770) (by decide +kernel)⟩
theorem lw_p22 : lw_okq (⟨"TurtleDesk$Reader", "readBlock", "(I)LTurtleDesk$Statement;"⟩, 9) := ⟨⟨by decide +kernel, by decide +kernel⟩, List.mem_of_getElem? (i := 35) (by decide +kernel), List.mem_of_getElem? (i := 773) (by decide +kernel), List.mem_of_getElem? (i := 774) (by decide +kernel)⟩
theorem lw_p23 : lw_okq (⟨"TurtleDesk$Coder", "writeAll", "(LTurtleDesk$Statement;)V"⟩, 1) := ⟨⟨by decide +kernel, by decide +kernel⟩, List.mem_of_getElem? (i := 174) (by decide +kernel), List.mem_of_getElem? (i := 781) (by decide +kernel), List.mem_of_getElem? (i := 782) (by decide +kernel)⟩
theorem lw_p24 : lw_okq (⟨"TurtleDesk$Coder", "writeDefinition", "(LTurtleDesk$Statement;)V"⟩, 1) := ⟨⟨by decide +kernel, by decide +kernel⟩, List.mem_of_getElem? (i := 174) (by decide +kernel), List.mem_of_getElem? (i := 785) (by decide +kernel), List.mem_of_getElem? (i := 786) (by decide +kernel)⟩
theorem lw_p25 : lw_okq (⟨"TurtleDesk$Coder", "writeOpen", "(I)I"⟩, 1) := ⟨⟨by decide +kernel, by decide +kernel⟩, List.mem_of_getElem? (i := 174) (by decide +kernel), List.mem_of_getElem? (i := 789) (by decide +kernel), List.mem_of_getElem? (i := 790) (by decide +kernel)⟩
theorem lw_p26 : lw_okq (⟨"TurtleDesk$Coder", "writeStatement", "(LTurtleDesk$Statement;)V"⟩, 1) := ⟨⟨by decide +kernel, by decide +kernel⟩, List.mem_of_getElem? (i := 174) (by decide +kernel), List.mem_of_getElem? (i := 802) (by decide +kernel), List.mem_of_getElem? (i := 803) (by decide +kernel)⟩
theorem lw_p27 : lw_okq (⟨"TurtleDesk$Coder", "writeTerms", "(II)V"⟩, 1) := ⟨⟨by decide +kernel, by decide +kernel⟩, List.mem_of_getElem? (i := 174) (by decide +kernel), List.mem_of_getElem? (i := 806) (by decide +kernel), List.mem_of_getElem? (i := 807) (by decide +kernel)⟩
theorem lw_p28 : lw_okq (⟨"TurtleDesk$Coder", "writeLoop", "(LTurtleDesk$Statement;I)V"⟩, 1) := ⟨⟨by decide +kernel, by decide +kernel⟩, List.mem_of_getElem? (i := 174) (by decide +kernel), List.mem_of_getElem? (i := 810) (by decide +kernel), List.mem_of_getElem? (i := 811) (by decide +kernel)⟩
theorem lw_p29 : lw_okq (⟨"TurtleDesk$Coder", "writeIf", "(LTurtleDesk$Statement;)V"⟩, 1) := ⟨⟨by decide +kernel, by decide +kernel⟩, List.mem_of_getElem? (i := 174) (by decide +kernel), List.mem_of_getElem? (i := 814) (by decide +kernel), List.mem_of_getElem? (i := 815) (by decide +kernel)⟩
theorem lw_p30 : lw_okq (⟨"TurtleDesk", "needProgram", "()V"⟩, 8) := ⟨⟨by decide +kernel, by decide +kernel⟩, List.mem_of_getElem? (i := 27) (by decide +kernel), List.mem_of_getElem? (i := 891) (by decide +kernel), List.mem_of_getElem? (i := 892) (by decide +kernel)⟩
theorem lw_p31 : lw_okq (⟨"TurtleDesk$Machine", "step", "(LTurtleDesk$Program;)V"⟩, 10) := ⟨⟨by decide +kernel, by decide +kernel⟩, List.mem_of_getElem? (i := 184) (by decide +kernel), List.mem_of_getElem? (i := 917) (by decide +kernel), List.mem_of_getElem? (i := 918) (by decide +kernel)⟩
def lw_privs_2 : List (MethodName × Nat) := [(⟨"TurtleDesk$Reader", "expect", "(I)V"⟩, 9), (⟨"TurtleDesk$Reader", "readLet", "(LTurtleDesk$Statement;)V"⟩, 9), (⟨"TurtleDesk$Reader", "readCondition", "()V"⟩, 9), (⟨"TurtleDesk$Reader", "readCall", "(LTurtleDesk$Statement;)V"⟩, 9), (⟨"TurtleDesk$Reader", "readDefinition", "(LTurtleDesk$Statement;)V"⟩, 9), (⟨"TurtleDesk$Reader", "definitionOf", "(J)LTurtleDesk$Statement;"⟩, 9), (⟨"TurtleDesk$Reader", "readBlock", "(I)LTurtleDesk$Statement;"⟩, 9), (⟨"TurtleDesk$Coder", "writeAll", "(LTurtleDesk$Statement;)V"⟩, 1), (⟨"TurtleDesk$Coder", "writeDefinition", "(LTurtleDesk$Statement;)V"⟩, 1), (⟨"TurtleDesk$Coder", "writeOpen", "(I)I"⟩, 1), (⟨"TurtleDesk$Coder", "writeStatement", "(LTurtleDesk$Statement;)V"⟩, 1), (⟨"TurtleDesk$Coder", "writeTerms", "(II)V"⟩, 1), (⟨"TurtleDesk$Coder", "writeLoop", "(LTurtleDesk$Statement;I)V"⟩, 1), (⟨"TurtleDesk$Coder", "writeIf", "(LTurtleDesk$Statement;)V"⟩, 1), (⟨"TurtleDesk", "needProgram", "()V"⟩, 8), (⟨"TurtleDesk$Machine", "step", "(LTurtleDesk$Program;)V"⟩, 10)]
theorem lw_r2 : ∀ q ∈ lw_privs_2, lw_okq q := List.forall_mem_cons.mpr ⟨lw_p16, List.forall_mem_cons.mpr ⟨lw_p17, List.forall_mem_cons.mpr ⟨lw_p18, List.forall_mem_cons.mpr ⟨lw_p19, List.forall_mem_cons.mpr ⟨lw_p20, List.forall_mem_cons.mpr ⟨lw_p21, List.forall_mem_cons.mpr ⟨lw_p22, List.forall_mem_cons.mpr ⟨lw_p23, List.forall_mem_cons.mpr ⟨lw_p24, List.forall_mem_cons.mpr ⟨lw_p25, List.forall_mem_cons.mpr ⟨lw_p26, List.forall_mem_cons.mpr ⟨lw_p27, List.forall_mem_cons.mpr ⟨lw_p28, List.forall_mem_cons.mpr ⟨lw_p29, List.forall_mem_cons.mpr ⟨lw_p30, List.forall_mem_cons.mpr ⟨lw_p31, fun _ h => absurd h List.not_mem_nil⟩⟩⟩⟩⟩⟩⟩⟩⟩⟩⟩⟩⟩⟩⟩⟩
theorem lw_p32 : lw_okq (⟨"TurtleDesk$Machine", "take", "()F"⟩, 10) := ⟨⟨by decide +kernel, by decide +kernel⟩, List.mem_of_getElem? (i := 184) (by decide +kernel), List.mem_of_getElem? (i := 929) (by decide +kernel), List.mem_of_getElem? (i := 930) (by decide +kernel)⟩
theorem lw_p33 : lw_okq (⟨"TurtleDesk$Machine", "push", "(F)V"⟩, 10) := ⟨⟨by decide +kernel, by decide +kernel⟩, List.mem_of_getElem? (i := 184) (by decide +kernel), List.mem_of_getElem? (i := 937) (by decide +kernel), List.mem_of_getElem? (i := 938) (by decide +kernel)⟩
theorem lw_p34 : lw_okq (⟨"TurtleDesk$Picture", "dot", "(III)V"⟩, 3) := ⟨⟨by decide +kernel, by decide +kernel⟩, List.mem_of_getElem? (i := 196) (by decide +kernel), List.mem_of_getElem? (i := 984) (by decide +kernel), List.mem_of_getElem? (i := 985) (by decide +kernel)⟩
theorem lw_p35 : lw_okq (⟨"TurtleDesk$Machine", "steer", "(IF)V"⟩, 10) := ⟨⟨by decide +kernel, by decide +kernel⟩, List.mem_of_getElem? (i := 184) (by decide +kernel), List.mem_of_getElem? (i := 988) (by decide +kernel), List.mem_of_getElem? (i := 989) (by decide +kernel)⟩
theorem lw_p36 : lw_okq (⟨"TurtleDesk$Picture", "reach", "(IIII)V"⟩, 3) := ⟨⟨by decide +kernel, by decide +kernel⟩, List.mem_of_getElem? (i := 196) (by decide +kernel), List.mem_of_getElem? (i := 1008) (by decide +kernel), List.mem_of_getElem? (i := 1009) (by decide +kernel)⟩
theorem lw_p37 : lw_okq (⟨"TurtleDesk$Machine", "parameterPlace", "(I)I"⟩, 10) := ⟨⟨by decide +kernel, by decide +kernel⟩, List.mem_of_getElem? (i := 184) (by decide +kernel), List.mem_of_getElem? (i := 1023) (by decide +kernel), List.mem_of_getElem? (i := 1024) (by decide +kernel)⟩
theorem lw_p38 : lw_okq (⟨"TurtleDesk$Machine", "calculate", "(I)V"⟩, 10) := ⟨⟨by decide +kernel, by decide +kernel⟩, List.mem_of_getElem? (i := 184) (by decide +kernel), List.mem_of_getElem? (i := 1028) (by decide +kernel), List.mem_of_getElem? (i := 1029) (by decide +kernel)⟩
theorem lw_p39 : lw_okq (⟨"TurtleDesk$Machine", "compare", "(I)V"⟩, 10) := ⟨⟨by decide +kernel, by decide +kernel⟩, List.mem_of_getElem? (i := 184) (by decide +kernel), List.mem_of_getElem? (i := 1034) (by decide +kernel), List.mem_of_getElem? (i := 1035) (by decide +kernel)⟩
theorem lw_p40 : lw_okq (⟨"TurtleDesk$Walker", "walkAll", "(LTurtleDesk$Statement;)V"⟩, 4) := ⟨⟨by decide +kernel, by decide +kernel⟩, List.mem_of_getElem? (i := 274) (by decide +kernel), List.mem_of_getElem? (i := 1050) (by decide +kernel), List.mem_of_getElem? (i := 1051) (by decide +kernel)⟩
theorem lw_p41 : lw_okq (⟨"TurtleDesk$Walker", "goesOn", "()Z"⟩, 4) := ⟨⟨by decide +kernel, by decide +kernel⟩, List.mem_of_getElem? (i := 274) (by decide +kernel), List.mem_of_getElem? (i := 1054) (by decide +kernel), List.mem_of_getElem? (i := 1055) (by decide +kernel)⟩
theorem lw_p42 : lw_okq (⟨"TurtleDesk$Walker", "takesFuel", "()Z"⟩, 4) := ⟨⟨by decide +kernel, by decide +kernel⟩, List.mem_of_getElem? (i := 274) (by decide +kernel), List.mem_of_getElem? (i := 1059) (by decide +kernel), List.mem_of_getElem? (i := 1060) (by decide +kernel)⟩
theorem lw_p43 : lw_okq (⟨"TurtleDesk$Walker", "walkStatement", "(LTurtleDesk$Statement;)V"⟩, 4) := ⟨⟨by decide +kernel, by decide +kernel⟩, List.mem_of_getElem? (i := 274) (by decide +kernel), List.mem_of_getElem? (i := 1063) (by decide +kernel), List.mem_of_getElem? (i := 1064) (by decide +kernel)⟩
theorem lw_p44 : lw_okq (⟨"TurtleDesk$Walker", "walkRepeat", "(LTurtleDesk$Statement;)V"⟩, 4) := ⟨⟨by decide +kernel, by decide +kernel⟩, List.mem_of_getElem? (i := 274) (by decide +kernel), List.mem_of_getElem? (i := 1067) (by decide +kernel), List.mem_of_getElem? (i := 1068) (by decide +kernel)⟩
theorem lw_p45 : lw_okq (⟨"TurtleDesk$Walker", "workOut", "(LTurtleDesk$Statement;)Z"⟩, 4) := ⟨⟨by decide +kernel, by decide +kernel⟩, List.mem_of_getElem? (i := 274) (by decide +kernel), List.mem_of_getElem? (i := 1071) (by decide +kernel), List.mem_of_getElem? (i := 1072) (by decide +kernel)⟩
theorem lw_p46 : lw_okq (⟨"TurtleDesk$Walker", "walkWhile", "(LTurtleDesk$Statement;)V"⟩, 4) := ⟨⟨by decide +kernel, by decide +kernel⟩, List.mem_of_getElem? (i := 274) (by decide +kernel), List.mem_of_getElem? (i := 1077) (by decide +kernel), List.mem_of_getElem? (i := 1078) (by decide +kernel)⟩
theorem lw_p47 : lw_okq (⟨"TurtleDesk$Walker", "walkCall", "(LTurtleDesk$Statement;)V"⟩, 4) := ⟨⟨by decide +kernel, by decide +kernel⟩, List.mem_of_getElem? (i := 274) (by decide +kernel), List.mem_of_getElem? (i := 1082) (by decide +kernel), List.mem_of_getElem? (i := 1083) (by decide +kernel)⟩
def lw_privs_3 : List (MethodName × Nat) := [(⟨"TurtleDesk$Machine", "take", "()F"⟩, 10), (⟨"TurtleDesk$Machine", "push", "(F)V"⟩, 10), (⟨"TurtleDesk$Picture", "dot", "(III)V"⟩, 3), (⟨"TurtleDesk$Machine", "steer", "(IF)V"⟩, 10), (⟨"TurtleDesk$Picture", "reach", "(IIII)V"⟩, 3), (⟨"TurtleDesk$Machine", "parameterPlace", "(I)I"⟩, 10), (⟨"TurtleDesk$Machine", "calculate", "(I)V"⟩, 10), (⟨"TurtleDesk$Machine", "compare", "(I)V"⟩, 10), (⟨"TurtleDesk$Walker", "walkAll", "(LTurtleDesk$Statement;)V"⟩, 4), (⟨"TurtleDesk$Walker", "goesOn", "()Z"⟩, 4), (⟨"TurtleDesk$Walker", "takesFuel", "()Z"⟩, 4), (⟨"TurtleDesk$Walker", "walkStatement", "(LTurtleDesk$Statement;)V"⟩, 4), (⟨"TurtleDesk$Walker", "walkRepeat", "(LTurtleDesk$Statement;)V"⟩, 4), (⟨"TurtleDesk$Walker", "workOut", "(LTurtleDesk$Statement;)Z"⟩, 4), (⟨"TurtleDesk$Walker", "walkWhile", "(LTurtleDesk$Statement;)V"⟩, 4), (⟨"TurtleDesk$Walker", "walkCall", "(LTurtleDesk$Statement;)V"⟩, 4)]
theorem lw_r3 : ∀ q ∈ lw_privs_3, lw_okq q := List.forall_mem_cons.mpr ⟨lw_p32, List.forall_mem_cons.mpr ⟨lw_p33, List.forall_mem_cons.mpr ⟨lw_p34, List.forall_mem_cons.mpr ⟨lw_p35, List.forall_mem_cons.mpr ⟨lw_p36, List.forall_mem_cons.mpr ⟨lw_p37, List.forall_mem_cons.mpr ⟨lw_p38, List.forall_mem_cons.mpr ⟨lw_p39, List.forall_mem_cons.mpr ⟨lw_p40, List.forall_mem_cons.mpr ⟨lw_p41, List.forall_mem_cons.mpr ⟨lw_p42, List.forall_mem_cons.mpr ⟨lw_p43, List.forall_mem_cons.mpr ⟨lw_p44, List.forall_mem_cons.mpr ⟨lw_p45, List.forall_mem_cons.mpr ⟨lw_p46, List.forall_mem_cons.mpr ⟨lw_p47, fun _ h => absurd h List.not_mem_nil⟩⟩⟩⟩⟩⟩⟩⟩⟩⟩⟩⟩⟩⟩⟩⟩
theorem lw_p48 : lw_okq (⟨"TurtleDeskModel", "begin", "()V"⟩, 49) := ⟨⟨by decide +kernel, by decide +kernel⟩, List.mem_of_getElem? (i := 1097) (by decide +kernel), List.mem_of_getElem? (i := 1108) (by decide +kernel), List.mem_of_getElem? (i := 1109) (by decide +kernel)⟩
theorem lw_p49 : lw_okq (⟨"TurtleDeskModel", "cut", "()V"⟩, 49) := ⟨⟨by decide +kernel, by decide +kernel⟩, List.mem_of_getElem? (i := 1097) (by decide +kernel), List.mem_of_getElem? (i := 1281) (by decide +kernel), List.mem_of_getElem? (i := 1282) (by decide +kernel)⟩
theorem lw_p50 : lw_okq (⟨"TurtleDeskModel", "look", "(I)C"⟩, 49) := ⟨⟨by decide +kernel, by decide +kernel⟩, List.mem_of_getElem? (i := 1097) (by decide +kernel), List.mem_of_getElem? (i := 1285) (by decide +kernel), List.mem_of_getElem? (i := 1286) (by decide +kernel)⟩
theorem lw_p51 : lw_okq (⟨"TurtleDeskModel", "letters", "(I)I"⟩, 49) := ⟨⟨by decide +kernel, by decide +kernel⟩, List.mem_of_getElem? (i := 1097) (by decide +kernel), List.mem_of_getElem? (i := 1298) (by decide +kernel), List.mem_of_getElem? (i := 1299) (by decide +kernel)⟩
theorem lw_p52 : lw_okq (⟨"TurtleDeskModel", "number", "(I)I"⟩, 49) := ⟨⟨by decide +kernel, by decide +kernel⟩, List.mem_of_getElem? (i := 1097) (by decide +kernel), List.mem_of_getElem? (i := 1304) (by decide +kernel), List.mem_of_getElem? (i := 1305) (by decide +kernel)⟩
theorem lw_p53 : lw_okq (⟨"TurtleDeskModel", "digits", "(II)I"⟩, 49) := ⟨⟨by decide +kernel, by decide +kernel⟩, List.mem_of_getElem? (i := 1097) (by decide +kernel), List.mem_of_getElem? (i := 1308) (by decide +kernel), List.mem_of_getElem? (i := 1309) (by decide +kernel)⟩
theorem lw_p54 : lw_okq (⟨"TurtleDeskModel", "make", "()V"⟩, 49) := ⟨⟨by decide +kernel, by decide +kernel⟩, List.mem_of_getElem? (i := 1097) (by decide +kernel), List.mem_of_getElem? (i := 1314) (by decide +kernel), List.mem_of_getElem? (i := 1315) (by decide +kernel)⟩
theorem lw_p55 : lw_okq (⟨"TurtleDeskModel", "is", "(I)Z"⟩, 49) := ⟨⟨by decide +kernel, by decide +kernel⟩, List.mem_of_getElem? (i := 1097) (by decide +kernel), List.mem_of_getElem? (i := 1318) (by decide +kernel), List.mem_of_getElem? (i := 1319) (by decide +kernel)⟩
theorem lw_p56 : lw_okq (⟨"TurtleDeskModel", "close", "()V"⟩, 49) := ⟨⟨by decide +kernel, by decide +kernel⟩, List.mem_of_getElem? (i := 1097) (by decide +kernel), List.mem_of_getElem? (i := 1322) (by decide +kernel), List.mem_of_getElem? (i := 1323) (by decide +kernel)⟩
theorem lw_p57 : lw_okq (⟨"TurtleDeskModel", "emit", "(I)V"⟩, 49) := ⟨⟨by decide +kernel, by decide +kernel⟩, List.mem_of_getElem? (i := 1097) (by decide +kernel), List.mem_of_getElem? (i := 1326) (by decide +kernel), List.mem_of_getElem? (i := 1327) (by decide +kernel)⟩
theorem lw_p58 : lw_okq (⟨"TurtleDeskModel", "keyword", "()I"⟩, 49) := ⟨⟨by decide +kernel, by decide +kernel⟩, List.mem_of_getElem? (i := 1097) (by decide +kernel), List.mem_of_getElem? (i := 1330) (by decide +kernel), List.mem_of_getElem? (i := 1331) (by decide +kernel)⟩
theorem lw_p59 : lw_okq (⟨"TurtleDeskModel", "jump", "(I)I"⟩, 49) := ⟨⟨by decide +kernel, by decide +kernel⟩, List.mem_of_getElem? (i := 1097) (by decide +kernel), List.mem_of_getElem? (i := 1340) (by decide +kernel), List.mem_of_getElem? (i := 1341) (by decide +kernel)⟩
theorem lw_p60 : lw_okq (⟨"TurtleDeskModel", "open", "(III)V"⟩, 49) := ⟨⟨by decide +kernel, by decide +kernel⟩, List.mem_of_getElem? (i := 1097) (by decide +kernel), List.mem_of_getElem? (i := 1344) (by decide +kernel), List.mem_of_getElem? (i := 1345) (by decide +kernel)⟩
theorem lw_p61 : lw_okq (⟨"TurtleDeskModel", "fail", "(I)V"⟩, 49) := ⟨⟨by decide +kernel, by decide +kernel⟩, List.mem_of_getElem? (i := 1097) (by decide +kernel), List.mem_of_getElem? (i := 1348) (by decide +kernel), List.mem_of_getElem? (i := 1349) (by decide +kernel)⟩
theorem lw_p62 : lw_okq (⟨"TurtleDeskModel", "definition", "()V"⟩, 49) := ⟨⟨by decide +kernel, by decide +kernel⟩, List.mem_of_getElem? (i := 1097) (by decide +kernel), List.mem_of_getElem? (i := 1352) (by decide +kernel), List.mem_of_getElem? (i := 1353) (by decide +kernel)⟩
theorem lw_p63 : lw_okq (⟨"TurtleDeskModel", "isName", "()Z"⟩, 49) := ⟨⟨by decide +kernel, by decide +kernel⟩, List.mem_of_getElem? (i := 1097) (by decide +kernel), List.mem_of_getElem? (i := 1356) (by decide +kernel), List.mem_of_getElem? (i := 1357) (by decide +kernel)⟩
def lw_privs_4 : List (MethodName × Nat) := [(⟨"TurtleDeskModel", "begin", "()V"⟩, 49), (⟨"TurtleDeskModel", "cut", "()V"⟩, 49), (⟨"TurtleDeskModel", "look", "(I)C"⟩, 49), (⟨"TurtleDeskModel", "letters", "(I)I"⟩, 49), (⟨"TurtleDeskModel", "number", "(I)I"⟩, 49), (⟨"TurtleDeskModel", "digits", "(II)I"⟩, 49), (⟨"TurtleDeskModel", "make", "()V"⟩, 49), (⟨"TurtleDeskModel", "is", "(I)Z"⟩, 49), (⟨"TurtleDeskModel", "close", "()V"⟩, 49), (⟨"TurtleDeskModel", "emit", "(I)V"⟩, 49), (⟨"TurtleDeskModel", "keyword", "()I"⟩, 49), (⟨"TurtleDeskModel", "jump", "(I)I"⟩, 49), (⟨"TurtleDeskModel", "open", "(III)V"⟩, 49), (⟨"TurtleDeskModel", "fail", "(I)V"⟩, 49), (⟨"TurtleDeskModel", "definition", "()V"⟩, 49), (⟨"TurtleDeskModel", "isName", "()Z"⟩, 49)]
theorem lw_r4 : ∀ q ∈ lw_privs_4, lw_okq q := List.forall_mem_cons.mpr ⟨lw_p48, List.forall_mem_cons.mpr ⟨lw_p49, List.forall_mem_cons.mpr ⟨lw_p50, List.forall_mem_cons.mpr ⟨lw_p51, List.forall_mem_cons.mpr ⟨lw_p52, List.forall_mem_cons.mpr ⟨lw_p53, List.forall_mem_cons.mpr ⟨lw_p54, List.forall_mem_cons.mpr ⟨lw_p55, List.forall_mem_cons.mpr ⟨lw_p56, List.forall_mem_cons.mpr ⟨lw_p57, List.forall_mem_cons.mpr ⟨lw_p58, List.forall_mem_cons.mpr ⟨lw_p59, List.forall_mem_cons.mpr ⟨lw_p60, List.forall_mem_cons.mpr ⟨lw_p61, List.forall_mem_cons.mpr ⟨lw_p62, List.forall_mem_cons.mpr ⟨lw_p63, fun _ h => absurd h List.not_mem_nil⟩⟩⟩⟩⟩⟩⟩⟩⟩⟩⟩⟩⟩⟩⟩⟩
theorem lw_p64 : lw_okq (⟨"TurtleDeskModel", "statement", "()V"⟩, 49) := ⟨⟨by decide +kernel, by decide +kernel⟩, List.mem_of_getElem? (i := 1097) (by decide +kernel), List.mem_of_getElem? (i := 1360) (by decide +kernel), List.mem_of_getElem? (i := 1361) (by decide +kernel)⟩
theorem lw_p65 : lw_okq (⟨"TurtleDeskModel", "expression", "()V"⟩, 49) := ⟨⟨by decide +kernel, by decide +kernel⟩, List.mem_of_getElem? (i := 1097) (by decide +kernel), List.mem_of_getElem? (i := 1364) (by decide +kernel), List.mem_of_getElem? (i := 1365) (by decide +kernel)⟩
theorem lw_p66 : lw_okq (⟨"TurtleDeskModel", "operand", "()V"⟩, 49) := ⟨⟨by decide +kernel, by decide +kernel⟩, List.mem_of_getElem? (i := 1097) (by decide +kernel), List.mem_of_getElem? (i := 1368) (by decide +kernel), List.mem_of_getElem? (i := 1369) (by decide +kernel)⟩
theorem lw_p67 : lw_okq (⟨"TurtleDeskModel", "slot", "()I"⟩, 49) := ⟨⟨by decide +kernel, by decide +kernel⟩, List.mem_of_getElem? (i := 1097) (by decide +kernel), List.mem_of_getElem? (i := 1372) (by decide +kernel), List.mem_of_getElem? (i := 1373) (by decide +kernel)⟩
theorem lw_p68 : lw_okq (⟨"TurtleDeskModel", "pour", "(II)I"⟩, 49) := ⟨⟨by decide +kernel, by decide +kernel⟩, List.mem_of_getElem? (i := 1097) (by decide +kernel), List.mem_of_getElem? (i := 1376) (by decide +kernel), List.mem_of_getElem? (i := 1377) (by decide +kernel)⟩
theorem lw_p69 : lw_okq (⟨"TurtleDeskModel", "let", "()V"⟩, 49) := ⟨⟨by decide +kernel, by decide +kernel⟩, List.mem_of_getElem? (i := 1097) (by decide +kernel), List.mem_of_getElem? (i := 1383) (by decide +kernel), List.mem_of_getElem? (i := 1384) (by decide +kernel)⟩
theorem lw_p70 : lw_okq (⟨"TurtleDeskModel", "expect", "(I)V"⟩, 49) := ⟨⟨by decide +kernel, by decide +kernel⟩, List.mem_of_getElem? (i := 1097) (by decide +kernel), List.mem_of_getElem? (i := 1387) (by decide +kernel), List.mem_of_getElem? (i := 1388) (by decide +kernel)⟩
theorem lw_p71 : lw_okq (⟨"TurtleDeskModel", "comparison", "()V"⟩, 49) := ⟨⟨by decide +kernel, by decide +kernel⟩, List.mem_of_getElem? (i := 1097) (by decide +kernel), List.mem_of_getElem? (i := 1391) (by decide +kernel), List.mem_of_getElem? (i := 1392) (by decide +kernel)⟩
theorem lw_p72 : lw_okq (⟨"TurtleDeskModel", "call", "()V"⟩, 49) := ⟨⟨by decide +kernel, by decide +kernel⟩, List.mem_of_getElem? (i := 1097) (by decide +kernel), List.mem_of_getElem? (i := 1395) (by decide +kernel), List.mem_of_getElem? (i := 1396) (by decide +kernel)⟩
theorem lw_p73 : lw_okq (⟨"TurtleDeskModel", "link", "()V"⟩, 49) := ⟨⟨by decide +kernel, by decide +kernel⟩, List.mem_of_getElem? (i := 1097) (by decide +kernel), List.mem_of_getElem? (i := 1399) (by decide +kernel), List.mem_of_getElem? (i := 1400) (by decide +kernel)⟩
theorem lw_p74 : lw_okq (⟨"TurtleDeskModel", "refuse", "(I)I"⟩, 49) := ⟨⟨by decide +kernel, by decide +kernel⟩, List.mem_of_getElem? (i := 1097) (by decide +kernel), List.mem_of_getElem? (i := 1403) (by decide +kernel), List.mem_of_getElem? (i := 1404) (by decide +kernel)⟩
theorem lw_p75 : lw_okq (⟨"TurtleDeskModel", "wrongFuel", "(I)I"⟩, 49) := ⟨⟨by decide +kernel, by decide +kernel⟩, List.mem_of_getElem? (i := 1097) (by decide +kernel), List.mem_of_getElem? (i := 1427) (by decide +kernel), List.mem_of_getElem? (i := 1428) (by decide +kernel)⟩
theorem lw_p76 : lw_okq (⟨"TurtleDeskModel", "one", "()V"⟩, 49) := ⟨⟨by decide +kernel, by decide +kernel⟩, List.mem_of_getElem? (i := 1097) (by decide +kernel), List.mem_of_getElem? (i := 1431) (by decide +kernel), List.mem_of_getElem? (i := 1432) (by decide +kernel)⟩
theorem lw_p77 : lw_okq (⟨"TurtleDeskModel", "pop", "()F"⟩, 49) := ⟨⟨by decide +kernel, by decide +kernel⟩, List.mem_of_getElem? (i := 1097) (by decide +kernel), List.mem_of_getElem? (i := 1438) (by decide +kernel), List.mem_of_getElem? (i := 1439) (by decide +kernel)⟩
theorem lw_p78 : lw_okq (⟨"TurtleDeskModel", "enter", "(II)V"⟩, 49) := ⟨⟨by decide +kernel, by decide +kernel⟩, List.mem_of_getElem? (i := 1097) (by decide +kernel), List.mem_of_getElem? (i := 1442) (by decide +kernel), List.mem_of_getElem? (i := 1443) (by decide +kernel)⟩
theorem lw_p79 : lw_okq (⟨"TurtleDeskModel", "leave", "()V"⟩, 49) := ⟨⟨by decide +kernel, by decide +kernel⟩, List.mem_of_getElem? (i := 1097) (by decide +kernel), List.mem_of_getElem? (i := 1446) (by decide +kernel), List.mem_of_getElem? (i := 1447) (by decide +kernel)⟩
def lw_privs_5 : List (MethodName × Nat) := [(⟨"TurtleDeskModel", "statement", "()V"⟩, 49), (⟨"TurtleDeskModel", "expression", "()V"⟩, 49), (⟨"TurtleDeskModel", "operand", "()V"⟩, 49), (⟨"TurtleDeskModel", "slot", "()I"⟩, 49), (⟨"TurtleDeskModel", "pour", "(II)I"⟩, 49), (⟨"TurtleDeskModel", "let", "()V"⟩, 49), (⟨"TurtleDeskModel", "expect", "(I)V"⟩, 49), (⟨"TurtleDeskModel", "comparison", "()V"⟩, 49), (⟨"TurtleDeskModel", "call", "()V"⟩, 49), (⟨"TurtleDeskModel", "link", "()V"⟩, 49), (⟨"TurtleDeskModel", "refuse", "(I)I"⟩, 49), (⟨"TurtleDeskModel", "wrongFuel", "(I)I"⟩, 49), (⟨"TurtleDeskModel", "one", "()V"⟩, 49), (⟨"TurtleDeskModel", "pop", "()F"⟩, 49), (⟨"TurtleDeskModel", "enter", "(II)V"⟩, 49), (⟨"TurtleDeskModel", "leave", "()V"⟩, 49)]
theorem lw_r5 : ∀ q ∈ lw_privs_5, lw_okq q := List.forall_mem_cons.mpr ⟨lw_p64, List.forall_mem_cons.mpr ⟨lw_p65, List.forall_mem_cons.mpr ⟨lw_p66, List.forall_mem_cons.mpr ⟨lw_p67, List.forall_mem_cons.mpr ⟨lw_p68, List.forall_mem_cons.mpr ⟨lw_p69, List.forall_mem_cons.mpr ⟨lw_p70, List.forall_mem_cons.mpr ⟨lw_p71, List.forall_mem_cons.mpr ⟨lw_p72, List.forall_mem_cons.mpr ⟨lw_p73, List.forall_mem_cons.mpr ⟨lw_p74, List.forall_mem_cons.mpr ⟨lw_p75, List.forall_mem_cons.mpr ⟨lw_p76, List.forall_mem_cons.mpr ⟨lw_p77, List.forall_mem_cons.mpr ⟨lw_p78, List.forall_mem_cons.mpr ⟨lw_p79, fun _ h => absurd h List.not_mem_nil⟩⟩⟩⟩⟩⟩⟩⟩⟩⟩⟩⟩⟩⟩⟩⟩
theorem lw_p80 : lw_okq (⟨"TurtleDeskModel", "plain", "(I)V"⟩, 49) := ⟨⟨by decide +kernel, by decide +kernel⟩, List.mem_of_getElem? (i := 1097) (by decide +kernel), List.mem_of_getElem? (i := 1450) (by decide +kernel), List.mem_of_getElem? (i := 1451) (by decide +kernel)⟩
theorem lw_p81 : lw_okq (⟨"TurtleDeskModel", "read", "(I)F"⟩, 49) := ⟨⟨by decide +kernel, by decide +kernel⟩, List.mem_of_getElem? (i := 1097) (by decide +kernel), List.mem_of_getElem? (i := 1454) (by decide +kernel), List.mem_of_getElem? (i := 1455) (by decide +kernel)⟩
theorem lw_p82 : lw_okq (⟨"TurtleDeskModel", "push", "(F)V"⟩, 49) := ⟨⟨by decide +kernel, by decide +kernel⟩, List.mem_of_getElem? (i := 1097) (by decide +kernel), List.mem_of_getElem? (i := 1460) (by decide +kernel), List.mem_of_getElem? (i := 1461) (by decide +kernel)⟩
theorem lw_p83 : lw_okq (⟨"TurtleDeskModel", "calculate", "(I)V"⟩, 49) := ⟨⟨by decide +kernel, by decide +kernel⟩, List.mem_of_getElem? (i := 1097) (by decide +kernel), List.mem_of_getElem? (i := 1464) (by decide +kernel), List.mem_of_getElem? (i := 1465) (by decide +kernel)⟩
theorem lw_p84 : lw_okq (⟨"TurtleDeskModel", "compare", "(I)V"⟩, 49) := ⟨⟨by decide +kernel, by decide +kernel⟩, List.mem_of_getElem? (i := 1097) (by decide +kernel), List.mem_of_getElem? (i := 1470) (by decide +kernel), List.mem_of_getElem? (i := 1471) (by decide +kernel)⟩
theorem lw_p85 : lw_okq (⟨"TurtleDeskModel", "walk", "(F)V"⟩, 49) := ⟨⟨by decide +kernel, by decide +kernel⟩, List.mem_of_getElem? (i := 1097) (by decide +kernel), List.mem_of_getElem? (i := 1474) (by decide +kernel), List.mem_of_getElem? (i := 1475) (by decide +kernel)⟩
theorem lw_p86 : lw_okq (⟨"TurtleDeskModel", "sine", "(I)F"⟩, 49) := ⟨⟨by decide +kernel, by decide +kernel⟩, List.mem_of_getElem? (i := 1097) (by decide +kernel), List.mem_of_getElem? (i := 1478) (by decide +kernel), List.mem_of_getElem? (i := 1479) (by decide +kernel)⟩
theorem lw_p87 : lw_okq (⟨"TurtleDeskModel", "line", "(IIII)V"⟩, 49) := ⟨⟨by decide +kernel, by decide +kernel⟩, List.mem_of_getElem? (i := 1097) (by decide +kernel), List.mem_of_getElem? (i := 1487) (by decide +kernel), List.mem_of_getElem? (i := 1488) (by decide +kernel)⟩
theorem lw_p88 : lw_okq (⟨"TurtleDeskModel", "dot", "(II)V"⟩, 49) := ⟨⟨by decide +kernel, by decide +kernel⟩, List.mem_of_getElem? (i := 1097) (by decide +kernel), List.mem_of_getElem? (i := 1491) (by decide +kernel), List.mem_of_getElem? (i := 1492) (by decide +kernel)⟩
theorem lw_p89 : lw_okq (⟨"TurtleDeskModel", "turn", "(IF)V"⟩, 49) := ⟨⟨by decide +kernel, by decide +kernel⟩, List.mem_of_getElem? (i := 1097) (by decide +kernel), List.mem_of_getElem? (i := 1501) (by decide +kernel), List.mem_of_getElem? (i := 1502) (by decide +kernel)⟩
theorem lw_p90 : lw_okq (⟨"TurtleDeskModel", "fill", "()V"⟩, 49) := ⟨⟨by decide +kernel, by decide +kernel⟩, List.mem_of_getElem? (i := 1097) (by decide +kernel), List.mem_of_getElem? (i := 1505) (by decide +kernel), List.mem_of_getElem? (i := 1506) (by decide +kernel)⟩
theorem lw_p91 : lw_okq (⟨"TurtleDeskModel", "spread", "(IIII)I"⟩, 49) := ⟨⟨by decide +kernel, by decide +kernel⟩, List.mem_of_getElem? (i := 1097) (by decide +kernel), List.mem_of_getElem? (i := 1509) (by decide +kernel), List.mem_of_getElem? (i := 1510) (by decide +kernel)⟩
theorem lw_p92 : lw_okq (⟨"TurtleDeskModel", "takesFuel", "()Z"⟩, 49) := ⟨⟨by decide +kernel, by decide +kernel⟩, List.mem_of_getElem? (i := 1097) (by decide +kernel), List.mem_of_getElem? (i := 1518) (by decide +kernel), List.mem_of_getElem? (i := 1519) (by decide +kernel)⟩
def lw_privs_6 : List (MethodName × Nat) := [(⟨"TurtleDeskModel", "plain", "(I)V"⟩, 49), (⟨"TurtleDeskModel", "read", "(I)F"⟩, 49), (⟨"TurtleDeskModel", "push", "(F)V"⟩, 49), (⟨"TurtleDeskModel", "calculate", "(I)V"⟩, 49), (⟨"TurtleDeskModel", "compare", "(I)V"⟩, 49), (⟨"TurtleDeskModel", "walk", "(F)V"⟩, 49), (⟨"TurtleDeskModel", "sine", "(I)F"⟩, 49), (⟨"TurtleDeskModel", "line", "(IIII)V"⟩, 49), (⟨"TurtleDeskModel", "dot", "(II)V"⟩, 49), (⟨"TurtleDeskModel", "turn", "(IF)V"⟩, 49), (⟨"TurtleDeskModel", "fill", "()V"⟩, 49), (⟨"TurtleDeskModel", "spread", "(IIII)I"⟩, 49), (⟨"TurtleDeskModel", "takesFuel", "()Z"⟩, 49)]
theorem lw_r6 : ∀ q ∈ lw_privs_6, lw_okq q := List.forall_mem_cons.mpr ⟨lw_p80, List.forall_mem_cons.mpr ⟨lw_p81, List.forall_mem_cons.mpr ⟨lw_p82, List.forall_mem_cons.mpr ⟨lw_p83, List.forall_mem_cons.mpr ⟨lw_p84, List.forall_mem_cons.mpr ⟨lw_p85, List.forall_mem_cons.mpr ⟨lw_p86, List.forall_mem_cons.mpr ⟨lw_p87, List.forall_mem_cons.mpr ⟨lw_p88, List.forall_mem_cons.mpr ⟨lw_p89, List.forall_mem_cons.mpr ⟨lw_p90, List.forall_mem_cons.mpr ⟨lw_p91, List.forall_mem_cons.mpr ⟨lw_p92, fun _ h => absurd h List.not_mem_nil⟩⟩⟩⟩⟩⟩⟩⟩⟩⟩⟩⟩⟩
def lw_privs : List (MethodName × Nat) := lw_privs_1 ++ (lw_privs_2 ++ (lw_privs_3 ++ (lw_privs_4 ++ (lw_privs_5 ++ (lw_privs_6)))))
def lw_tbl : List Cond := k2_sels lw_privs ++ tables_1
theorem lw_privs_ok : ∀ q ∈ lw_privs, lw_okq q := by
  show ∀ q ∈ lw_privs_1 ++ (lw_privs_2 ++ (lw_privs_3 ++ (lw_privs_4 ++ (lw_privs_5 ++ (lw_privs_6))))), lw_okq q
  exact List.forall_mem_append.mpr ⟨lw_r1, List.forall_mem_append.mpr ⟨lw_r2, List.forall_mem_append.mpr ⟨lw_r3, List.forall_mem_append.mpr ⟨lw_r4, List.forall_mem_append.mpr ⟨lw_r5, lw_r6⟩⟩⟩⟩⟩
end
section
/-! A small machine over the kit's rows: values whose references are places in a list of objects; one step as a function; a run with fuel and depth. Its agreement with the machine is proved once (parts 03 ..), so that a method is walked by computing this function. -/
-- an object: kind (0 int[], 1 char[], 2 long[], 3 float[], 4 double[], 5 byte[]; 8 + i: class i of the table) and its contents
abbrev aO : Type := Nat × List Value
abbrev aH : Type := List aO
abbrev aLc : Type := List (Nat × Value)
-- what an instruction's entry of the constant pool comes to: three numbers and a value
abbrev aLk : Type := Nat × Nat × Nat × Value
-- pc, instruction, its length, link
abbrev aIn : Type := Nat × Instr × Nat × aLk
-- name, bytes, locals, what it returns, rows, handlers (from, to, target, class of the table)
abbrev aMt : Type := MethodName × ByteArray × Nat × Option FieldType × List aIn × List (Nat × Nat × Nat × Nat)
abbrev aMt.nm (M : aMt) : MethodName := M.1
abbrev aMt.by (M : aMt) : ByteArray := M.2.1
abbrev aMt.nl (M : aMt) : Nat := M.2.2.1
abbrev aMt.rt (M : aMt) : Option FieldType := M.2.2.2.1
abbrev aMt.cd (M : aMt) : List aIn := M.2.2.2.2.1
abbrev aMt.hd (M : aMt) : List (Nat × Nat × Nat × Nat) := M.2.2.2.2.2
abbrev aOut : Type := Option Value ⊕ Nat
def aTy : Nat → FieldType
  | 0 => .int | 1 => .char | 2 => .long | 3 => .float | 4 => .double | _ => .byte
def aTgt (pc : Nat) (off : Int) : Option Nat := if 0 ≤ (pc : Int) + off then some ((pc : Int) + off).toNat else none
def aGet : aLc → Nat → Option Value
  | [], _ => none
  | q :: l, i => if q.1 = i then some q.2 else aGet l i
def aSet1 (ls : aLc) (i : Nat) (v : Value) : aLc := (i, v) :: ls.filter (fun q => !(q.1 == i) && !(q.1 + 1 == i && q.2.category == 2))
def aSet2 (ls : aLc) (i : Nat) (v : Value) : aLc := (i, v) :: ls.filter (fun q => !(q.1 == i) && (!(q.1 == i + 1) && !(q.1 + 1 == i && q.2.category == 2)))
def aLen : Instr → Nat
  | .bipush _ => 2 | .ldc _ => 2 | .newarray _ => 2 | .iload _ => 2 | .lload _ => 2 | .fload _ => 2 | .dload _ => 2 | .aload _ => 2
  | .istore _ => 2 | .lstore _ => 2 | .fstore _ => 2 | .dstore _ => 2 | .astore _ => 2
  | .sipush _ => 3 | .ldc_w _ => 3 | .ldc2_w _ => 3 | .iinc _ _ => 3 | .ifCond _ _ => 3 | .if_icmp _ _ => 3 | .goto _ => 3 | .ifnull _ => 3 | .ifnonnull _ => 3
  | .getstatic _ => 3 | .getfield _ => 3 | .putfield _ => 3 | .invokevirtual _ => 3 | .invokespecial _ => 3 | .invokestatic _ => 3 | .new _ => 3
  | _ => 1
def aN32 (r : UInt32) : Bool := decide (r &&& 0x7fffffff ≤ 0x7f800000)
def aN64 (r : UInt64) : Bool := decide (r &&& 0x7fffffffffffffff ≤ 0x7ff0000000000000)
/-- instructions that touch the operand stack alone -/
def aPure (I : Instr) (v : Value) (st : List Value) : Option (List Value) :=
  match I with
  | .aconst_null => some (.null :: st)
  | .iconst n => some (.int (Int32.ofInt n) :: st)
  | .bipush n => some (.int (Int8.ofInt n).toInt32 :: st)
  | .sipush n => some (.int (Int16.ofInt n).toInt32 :: st)
  | .lconst n => some (.long (Int64.ofNat n) :: st)
  | .fconst 0 => some (.float FP.fconst0 :: st)
  | .fconst 1 => some (.float FP.fconst1 :: st)
  | .ldc _ => some (v :: st)
  | .ldc_w _ => some (v :: st)
  | .ldc2_w _ => some (v :: st)
  | .iadd => match st with | .int y :: .int x :: r => some (.int (x + y) :: r) | _ => none
  | .isub => match st with | .int y :: .int x :: r => some (.int (x - y) :: r) | _ => none
  | .imul => match st with | .int y :: .int x :: r => some (.int (x * y) :: r) | _ => none
  | .iand => match st with | .int y :: .int x :: r => some (.int (x &&& y) :: r) | _ => none
  | .ior => match st with | .int y :: .int x :: r => some (.int (x ||| y) :: r) | _ => none
  | .ixor => match st with | .int y :: .int x :: r => some (.int (x ^^^ y) :: r) | _ => none
  | .idiv => match st with | .int y :: .int x :: r => if y = 0 then none else some (.int (x / y) :: r) | _ => none
  | .irem => match st with | .int y :: .int x :: r => if y = 0 then none else some (.int (x - x / y * y) :: r) | _ => none
  | .ineg => match st with | .int x :: r => some (.int (-x) :: r) | _ => none
  | .ladd => match st with | .long y :: .long x :: r => some (.long (x + y) :: r) | _ => none
  | .lsub => match st with | .long y :: .long x :: r => some (.long (x - y) :: r) | _ => none
  | .lmul => match st with | .long y :: .long x :: r => some (.long (x * y) :: r) | _ => none
  | .ishl => match st with | .int y :: .int x :: r => some (.int (x <<< (y &&& 31)) :: r) | _ => none
  | .ishr => match st with | .int y :: .int x :: r => some (.int (x >>> (y &&& 31)) :: r) | _ => none
  | .iushr => match st with | .int y :: .int x :: r => some (.int (x.toUInt32 >>> (y.toUInt32 &&& Int32.toUInt32 31)).toInt32 :: r) | _ => none
  | .i2l => match st with | .int x :: r => some (.long x.toInt64 :: r) | _ => none
  | .l2i => match st with | .long x :: r => some (.int x.toInt32 :: r) | _ => none
  | .i2b => match st with | .int x :: r => some (.int x.toInt8.toInt32 :: r) | _ => none
  | .i2c => match st with | .int x :: r => some (.int (x.toUInt32 % 65536).toInt32 :: r) | _ => none
  | .dup => match st with | .int x :: r => some (.int x :: .int x :: r) | .float x :: r => some (.float x :: .float x :: r) | .ref x :: r => some (.ref x :: .ref x :: r) | .null :: r => some (.null :: .null :: r) | _ => none
  | .pop => match st with | .int _ :: r => some r | .float _ :: r => some r | .ref _ :: r => some r | .null :: r => some r | _ => none
  | .pop2 => match st with | .long _ :: r => some r | .double _ :: r => some r | _ => none
  | .lcmp => match st with | .long y :: .long x :: r => some (.int (lg_cmp x y) :: r) | _ => none
  | .fadd => match st with | .float y :: .float x :: r => if aN32 (FP.fadd x y) then some (.float (FP.fadd x y) :: r) else none | _ => none
  | .fsub => match st with | .float y :: .float x :: r => if aN32 (FP.fsub x y) then some (.float (FP.fsub x y) :: r) else none | _ => none
  | .fmul => match st with | .float y :: .float x :: r => if aN32 (FP.fmul x y) then some (.float (FP.fmul x y) :: r) else none | _ => none
  | .fdiv => match st with | .float y :: .float x :: r => if aN32 (FP.fdiv x y) then some (.float (FP.fdiv x y) :: r) else none | _ => none
  | .fneg => match st with | .float x :: r => some (.float (FP.fneg x) :: r) | _ => none
  | .fcmp op => match st with | .float y :: .float x :: r => some (.int (Op.cmpValue (FP.fcmp x y) op) :: r) | _ => none
  | .dcmp op => match st with | .double y :: .double x :: r => some (.int (Op.cmpValue (FP.dcmp x y) op) :: r) | _ => none
  | .i2f => match st with | .int x :: r => some (.float (FP.i2f x) :: r) | _ => none
  | .f2i => match st with | .float x :: r => some (.int (FP.f2i x) :: r) | _ => none
  | .f2d => match st with | .float x :: r => if aN64 (FP.f2d x) then some (.double (FP.f2d x) :: r) else none | _ => none
  | _ => none
/-- jumps -/
def aBr (I : Instr) (pc : Nat) (st : List Value) : Option (Nat × List Value) :=
  match I with
  | .goto o => (aTgt pc o).map (fun t => (t, st))
  | .ifCond .eq o => match st with | .int x :: r => (aTgt pc o).map (fun t => if x = 0 then (t, r) else (pc + 3, r)) | _ => none
  | .ifCond .ne o => match st with | .int x :: r => (aTgt pc o).map (fun t => if x = 0 then (pc + 3, r) else (t, r)) | _ => none
  | .ifCond .lt o => match st with | .int x :: r => (aTgt pc o).map (fun t => if x < 0 then (t, r) else (pc + 3, r)) | _ => none
  | .ifCond .ge o => match st with | .int x :: r => (aTgt pc o).map (fun t => if 0 ≤ x then (t, r) else (pc + 3, r)) | _ => none
  | .ifCond .gt o => match st with | .int x :: r => (aTgt pc o).map (fun t => if 0 < x then (t, r) else (pc + 3, r)) | _ => none
  | .ifCond .le o => match st with | .int x :: r => (aTgt pc o).map (fun t => if x ≤ 0 then (t, r) else (pc + 3, r)) | _ => none
  | .if_icmp .eq o => match st with | .int y :: .int x :: r => (aTgt pc o).map (fun t => if x = y then (t, r) else (pc + 3, r)) | _ => none
  | .if_icmp .ne o => match st with | .int y :: .int x :: r => (aTgt pc o).map (fun t => if x = y then (pc + 3, r) else (t, r)) | _ => none
  | .if_icmp .lt o => match st with | .int y :: .int x :: r => (aTgt pc o).map (fun t => if x < y then (t, r) else (pc + 3, r)) | _ => none
  | .if_icmp .ge o => match st with | .int y :: .int x :: r => (aTgt pc o).map (fun t => if y ≤ x then (t, r) else (pc + 3, r)) | _ => none
  | .if_icmp .gt o => match st with | .int y :: .int x :: r => (aTgt pc o).map (fun t => if y < x then (t, r) else (pc + 3, r)) | _ => none
  | .if_icmp .le o => match st with | .int y :: .int x :: r => (aTgt pc o).map (fun t => if x ≤ y then (t, r) else (pc + 3, r)) | _ => none
  | .ifnull o => match st with | .null :: r => (aTgt pc o).map (fun t => (t, r)) | .ref _ :: r => some (pc + 3, r) | _ => none
  | .ifnonnull o => match st with | .ref _ :: r => (aTgt pc o).map (fun t => (t, r)) | .null :: r => some (pc + 3, r) | _ => none
  | .tableswitch d lo hi offs => match st with
    | .int x :: r => if x.toInt < lo ∨ hi < x.toInt then (aTgt pc d).map (fun t => (t, r)) else (offs[(x.toInt - lo).toNat]?).bind (fun o => (aTgt pc o).map (fun t => (t, r)))
    | _ => none
  | .lookupswitch d ps => match st with
    | .int x :: r => if (ps.toList.zip (ps.toList.drop 1)).all (fun (a, next) => a.1 < next.1) = true then (aTgt pc (Op.lookupswitch.offset ps.toList d x.toInt)).map (fun t => (t, r)) else none
    | _ => none
  | _ => none
/-- loads and stores of locals -/
def aLdI (i : Nat) (ls : aLc) (st : List Value) : Option (List Value) := match aGet ls i with | some (.int x) => some (.int x :: st) | _ => none
def aLdL (i : Nat) (ls : aLc) (st : List Value) : Option (List Value) := match aGet ls i with | some (.long x) => some (.long x :: st) | _ => none
def aLdF (i : Nat) (ls : aLc) (st : List Value) : Option (List Value) := match aGet ls i with | some (.float x) => some (.float x :: st) | _ => none
def aLdD (i : Nat) (ls : aLc) (st : List Value) : Option (List Value) := match aGet ls i with | some (.double x) => some (.double x :: st) | _ => none
def aLdA (i : Nat) (ls : aLc) (st : List Value) : Option (List Value) := match aGet ls i with | some (.ref x) => some (.ref x :: st) | some .null => some (.null :: st) | _ => none
def aStI (nl i : Nat) (ls : aLc) (st : List Value) : Option (aLc × List Value) := match st with | .int x :: r => if i < nl then some (aSet1 ls i (.int x), r) else none | _ => none
def aStL (nl i : Nat) (ls : aLc) (st : List Value) : Option (aLc × List Value) := match st with | .long x :: r => if i + 1 < nl then some (aSet2 ls i (.long x), r) else none | _ => none
def aStF (nl i : Nat) (ls : aLc) (st : List Value) : Option (aLc × List Value) := match st with | .float x :: r => if i < nl then some (aSet1 ls i (.float x), r) else none | _ => none
def aStD (nl i : Nat) (ls : aLc) (st : List Value) : Option (aLc × List Value) := match st with | .double x :: r => if i + 1 < nl then some (aSet2 ls i (.double x), r) else none | _ => none
def aStA (nl i : Nat) (ls : aLc) (st : List Value) : Option (aLc × List Value) := match st with | .ref x :: r => if i < nl then some (aSet1 ls i (.ref x), r) else none | .null :: r => if i < nl then some (aSet1 ls i .null, r) else none | _ => none
def aLoc (nl : Nat) (I : Instr) (ls : aLc) (st : List Value) : Option (aLc × List Value) :=
  match I with
  | .iload_n k => (aLdI k ls st).map (fun t => (ls, t))
  | .iload k => (aLdI k ls st).map (fun t => (ls, t))
  | .lload_n k => (aLdL k ls st).map (fun t => (ls, t))
  | .lload k => (aLdL k ls st).map (fun t => (ls, t))
  | .fload_n k => (aLdF k ls st).map (fun t => (ls, t))
  | .fload k => (aLdF k ls st).map (fun t => (ls, t))
  | .dload_n k => (aLdD k ls st).map (fun t => (ls, t))
  | .dload k => (aLdD k ls st).map (fun t => (ls, t))
  | .aload_n k => (aLdA k ls st).map (fun t => (ls, t))
  | .aload k => (aLdA k ls st).map (fun t => (ls, t))
  | .istore_n k => aStI nl k ls st
  | .istore k => aStI nl k ls st
  | .lstore_n k => aStL nl k ls st
  | .lstore k => aStL nl k ls st
  | .fstore_n k => aStF nl k ls st
  | .fstore k => aStF nl k ls st
  | .dstore_n k => aStD nl k ls st
  | .dstore k => aStD nl k ls st
  | .astore_n k => aStA nl k ls st
  | .astore k => aStA nl k ls st
  | .iinc i n => match aGet ls i with | some (.int x) => if i < nl then some (aSet1 ls i (.int (x + Int32.ofInt n)), st) else none | _ => none
  | _ => none
def aDef : FieldType → Value := defaultValue
/-- which fields may be written: their values are of the type as they stand -/
def aFit (ty : FieldType) (v : Value) : Bool := match ty with
  | .byte => false | .char => false | .short => false
  | t => fits t v
def aRd (kd : Nat) (st : List Value) (h : aH) : Option (List Value × aH) := match st with
  | .int i :: .ref p :: r => match h[p]? with
    | some (k, vs) => if k = kd then (if i < 0 then none else match vs[i.toNatClampNeg]? with | some v => some (v :: r, h) | none => none) else none
    | none => none
  | _ => none
def aWr (kd K : Nat) (x : Value) (st : List Value) (h : aH) : Option (List Value × aH) := match st with
  | .int i :: .ref p :: r => match h[p]? with
    | some (k, vs) => if k = kd ∧ K ≤ p ∧ ¬ i < 0 ∧ i.toNatClampNeg < vs.length then some (r, h.set p (k, vs.set i.toNatClampNeg x)) else none
    | none => none
  | _ => none
def aNewA (kd : Nat) (st : List Value) (h : aH) : Option (List Value × aH) := match st with
  | .int n :: r => if ¬ n < 0 ∧ n.toNatClampNeg ≤ 60000 then some (.ref h.length :: r, h ++ [(kd, List.replicate n.toNatClampNeg (defaultValue (aTy kd)))]) else none
  | _ => none
/-- the heap: K: how many places are not to be written; cl: the table of classes: name, fields, how many, their types -/
def aHp (cl : List (vw_C × List FieldType)) (K : Nat) (own : MethodName) (I : Instr) (lk : aLk) (st : List Value) (h : aH) : Option (List Value × aH) :=
  match I with
  | .getfield _ => match st with
    | .ref p :: r => match h[p]? with
      | some (kd, vs) => if kd = 2 * lk.1 + 8 then (match vs[lk.2.1]? with | some v => some (v :: r, h) | none => none) else none
      | none => none
    | _ => none
  | .putfield _ => match st with
    | v :: .ref p :: r => match h[p]?, cl[lk.1]? with
      | some (kd, vs), some c => if kd = 2 * lk.1 + 8 ∧ K ≤ p ∧ lk.2.1 < vs.length then (match c.2[lk.2.1]? with | some ty => if aFit ty v = true then some (r, h.set p (kd, vs.set lk.2.1 v)) else none | none => none) else none
      | _, _ => none
    | _ => none
  | .iaload => aRd 0 st h
  | .caload => aRd 1 st h
  | .laload => aRd 2 st h
  | .faload => aRd 3 st h
  | .daload => aRd 4 st h
  | .baload => aRd 5 st h
  | .iastore => match st with | .int x :: r => aWr 0 K (.int x) r h | _ => none
  | .castore => match st with | .int x :: r => aWr 1 K (narrow .char (.int x)) r h | _ => none
  | .lastore => match st with | .long x :: r => aWr 2 K (.long x) r h | _ => none
  | .fastore => match st with | .float x :: r => aWr 3 K (.float x) r h | _ => none
  | .dastore => match st with | .double x :: r => aWr 4 K (.double x) r h | _ => none
  | .arraylength => match st with
    | .ref p :: r => match h[p]? with
      | some (kd, vs) => if kd < 6 then some (.int (Int32.ofNat vs.length) :: r, h) else none
      | none => none
    | _ => none
  | .newarray .int => aNewA 0 st h
  | .newarray .char => aNewA 1 st h
  | .newarray .long => aNewA 2 st h
  | .newarray .float => aNewA 3 st h
  | .newarray .double => aNewA 4 st h
  | .new _ => match cl[lk.1]? with
    | some c => if lk.2.1 = 0 then some (.ref h.length :: st, h ++ [(2 * lk.1 + 8, c.2.map defaultValue)]) else some (.ref h.length :: st, h ++ [(2 * lk.1 + 9, [])])
    | none => none
  | .getstatic _ => some (lk.2.2.2 :: st, h)
  | _ => none
/-- a return -/
def aRet (I : Instr) (rt : Option FieldType) (st : List Value) : Option (Option Value) :=
  match I with
  | .return_ => match rt, st with | none, [] => some none | _, _ => none
  | .ireturn => match rt, st with
    | some .int, [.int v] => some (some (.int v))
    | some .boolean, [.int v] => if v = 0 ∨ v = 1 then some (some (.int v)) else none
    | some .char, [.int v] => if narrow .char (.int v) = .int v then some (some (.int v)) else none
    | some .byte, [.int v] => if narrow .byte (.int v) = .int v then some (some (.int v)) else none
    | _, _ => none
  | .lreturn => match rt, st with | some .long, [.long v] => some (some (.long v)) | _, _ => none
  | .freturn => match rt, st with | some .float, [.float v] => some (some (.float v)) | _, _ => none
  | .areturn => match rt, st with
    | some (.object _), [.ref v] => some (some (.ref v))
    | some (.object _), [.null] => some (some .null)
    | _, _ => none
  | _ => none
def aFind : List aIn → Nat → Option (Instr × aLk)
  | [], _ => none
  | e :: l, pc => if e.1 = pc then some (e.2.1, e.2.2.2) else aFind l pc
/-- a call: the number of the method in the program, its arguments (the receiver among them), what stays on the stack -/
def aArgs : Nat → List Value → Option (List Value × List Value)
  | 0, st => some ([], st)
  | n + 1, v :: st => match aArgs n st with | some (as, r) => some (as ++ [v], r) | none => none
  | _ + 1, [] => none
def aCat (st : List Value) : Nat := (st.map fun v => v.category).sum

abbrev aRes : Type := (Nat × aLc × List Value × aH) ⊕ ((aOut × aH) ⊕ (Nat × List Value × List Value))
/-- one instruction: it goes on, or the method ends, or it calls -/
def aStep (cl : List (vw_C × List FieldType)) (K : Nat) (M : aMt) (I : Instr) (lk : aLk) (pc : Nat) (ls : aLc) (st : List Value) (h : aH) : Option aRes :=
  match aPure I lk.2.2.2 st with
  | some st' => some (.inl (pc + aLen I, ls, st', h))
  | none => match aLoc M.nl I ls st with
    | some (ls', st') => some (.inl (pc + aLen I, ls', st', h))
    | none => match aBr I pc st with
      | some (pc', st') => some (.inl (pc', ls, st', h))
      | none => match aHp cl K M.nm I lk st h with
        | some (st', h') => some (.inl (pc + aLen I, ls, st', h'))
        | none => match aRet I M.rt st with
          | some v => some (.inr (.inl (.inl v, h)))
          | none => match I with
            | .invokestatic _ => match aArgs lk.2.1 st with
              | some (as, r) => some (.inr (.inr (lk.1, as, r)))
              | none => none
            | .invokevirtual _ => match aArgs lk.2.1 st with
              | some (.ref q :: as, r) => match h[q]? with
                | some (kd, _) => if kd = 2 * lk.2.2.1 + 8 then some (.inr (.inr (lk.1, .ref q :: as, r))) else none
                | none => none
              | _ => none
            | .invokespecial _ => match lk.1, st with
              | 0, .ref w :: r => match lk.2.2.1 with
                | 0 => if aCat r ≤ 80 then some (.inl (pc + 3, ls, r, h)) else none
                | x + 1 => match r with
                  | .ref q :: r' => match h[q]? with
                    | some (kd, _) => if kd = 2 * x + 9 ∧ K ≤ q ∧ aCat r' ≤ 10 then some (.inl (pc + 3, ls, r', h.set q (2 * x + 8, []))) else none
                    | none => none
                  | _ => none
              | k + 1, _ => match aArgs lk.2.1 st with
                | some (.ref q :: as, r) => some (.inr (.inr (k, .ref q :: as, r)))
                | _ => none
              | _, _ => none
            | .athrow => match st with
              | .ref q :: _ => match M.hd with
                | [] => some (.inr (.inl (.inr q, h)))
                | _ => none
              | _ => none
            | _ => none
/-- the handler of an exception of class kd - 8 at pc -/
def aHand (hd : List (Nat × Nat × Nat × Nat)) (pc : Nat) (kd : Nat) : Option Nat :=
  match hd with
  | [] => none
  | (a, b, t, k) :: l => if a ≤ pc ∧ pc < b ∧ kd = 2 * k + 8 then some t else aHand l pc kd
def aRun (cl : List (vw_C × List FieldType)) (K : Nat) (P : List aMt) : Nat → aMt → Nat → Nat → aLc → List Value → aH → Option (aOut × aH)
  | 0, _, _, _, _, _, _ => none
  | n + 1, M, d, pc, ls, st, h => match aFind M.cd pc with
    | none => none
    | some (I, lk) => match aStep cl K M I lk pc ls st h with
      | none => none
      | some (.inl (pc', ls', st', h')) => aRun cl K P n M d pc' ls' st' h'
      | some (.inr (.inl r)) => some r
      | some (.inr (.inr (k, as, rest))) => match d, P[k]? with
        | d' + 1, some M' => if aCat rest + M'.nl ≤ 80 ∧ aCat as ≤ M'.nl then (match aRun cl K P n M' d' 0 (lv_args 0 as) [] h with
          | none => none
          | some (.inl v, h') => aRun cl K P n M d (pc + 3) ls (v.toList ++ rest) h'
          | some (.inr q, h') => match M.hd with
            | [] => some (.inr q, h')
            | hd => match h'[q]? with
              | some (kd, _) => match aHand hd pc kd with
                | some t => aRun cl K P n M d t ls [.ref q] h'
                | none => none
              | none => none) else none
        | _, _ => none
end
section

/-! how the small machine's state lies in the real one -/
/-- references are places: ad says where a place lies; unk: what is not known of a value but that it is a reference -/
def aV (ad : Nat → Nat) (unk : Nat → Value) : Value → Value
  | .ref p => .ref (ad p)
  | .retAddr i => unk i
  | v => v
abbrev aVs (ad : Nat → Nat) (unk : Nat → Value) (st : List Value) : List Value := st.map (aV ad unk)
def aLs (ad : Nat → Nat) (unk : Nat → Value) (ls : aLc) : List (Nat × Value) := ls.map (fun q => (q.1, aV ad unk q.2))
theorem aV_cat {ad : Nat → Nat} {unk : Nat → Value} (hu : ∀ i, (unk i).category = 1) (v : Value) : (aV ad unk v).category = v.category := by
  cases v <;> first | rfl | exact hu _
theorem aGet_at {ls : aLc} {i : Nat} {v : Value} (h : aGet ls i = some v) : (i, v) ∈ ls := by
  induction ls with
  | nil => cases h
  | cons q l ih =>
    unfold aGet at h
    split at h
    · rename_i e
      cases h
      subst e
      exact List.mem_cons_self
    · exact List.mem_cons_of_mem _ (ih h)
theorem aLs_at {ad : Nat → Nat} {unk : Nat → Value} {ls : aLc} {i nL : Nat} {v : Value} {lsR : Array Slot} (hl : lv_has lsR nL (aLs ad unk ls)) (h : aGet ls i = some v) : lsR[i]? = some (.val (aV ad unk v)) :=
  hl.2.2 (i, aV ad unk v) (List.mem_map.mpr ⟨_, aGet_at h, rfl⟩)
theorem aLs_f1 {ad : Nat → Nat} {unk : Nat → Value} (hu : ∀ i, (unk i).category = 1) (ls : aLc) (i : Nat) (v : Value) :
    (i, aV ad unk v) :: (aLs ad unk ls).filter (fun q => !(q.1 == i) && !(q.1 + 1 == i && q.2.category == 2)) = aLs ad unk (aSet1 ls i v) := by
  unfold aSet1 aLs
  rw [List.map_cons, List.filter_map]
  congr 3
  funext q
  simp only [Function.comp, aV_cat hu]
theorem aLs_f2 {ad : Nat → Nat} {unk : Nat → Value} (hu : ∀ i, (unk i).category = 1) (ls : aLc) (i : Nat) (v : Value) :
    (i, aV ad unk v) :: (aLs ad unk ls).filter (fun q => !(q.1 == i) && (!(q.1 == i + 1) && !(q.1 + 1 == i && q.2.category == 2))) = aLs ad unk (aSet2 ls i v) := by
  unfold aSet2 aLs
  rw [List.map_cons, List.filter_map]
  congr 3
  funext q
  simp only [Function.comp, aV_cat hu]
theorem aLs_args {ad : Nat → Nat} {unk : Nat → Value} (hu : ∀ i, (unk i).category = 1) (as : List Value) : ∀ i, lv_args i (aVs ad unk as) = aLs ad unk (lv_args i as) := by
  induction as with
  | nil => intro i; rfl
  | cons v l ih =>
    intro i
    simp only [aVs, List.map_cons, lv_args, aLs, aV_cat hu] at ih ⊢
    congr 1
    exact ih _
end
section

theorem aTgt_eq {pc t : Nat} {o : Int} (h : aTgt pc o = some t) : (pc : Int) + o = (t : Int) := by
  unfold aTgt at h
  split at h
  · cases h
    omega
  · cases h
/-- what a constant instruction needs of the tables -/
def aLd (ad : Nat → Nat) (own : String) (I : Instr) (v : Value) (args : Array Value) (s : State) : Prop := match I, v with
  | .ldc i, .int x => (Jvm.Cond.constant own i x).before args s = true
  | .ldc i, .float x => (Jvm.Cond.constantFloat own i x).before args s = true
  | .ldc i, .ref q => ∃ tx, vk_R own i tx (ad q) s
  | .ldc_w i, .int x => (Jvm.Cond.constant own i x).before args s = true
  | .ldc_w i, .float x => (Jvm.Cond.constantFloat own i x).before args s = true
  | .ldc2_w i, .long x => (Jvm.Cond.constantLong own i x).before args s = true
  | .ldc _, _ => False
  | .ldc_w _, _ => False
  | .ldc2_w _, _ => False
  | _, _ => True
theorem aN32_ok {r : UInt32} (h : aN32 r = true) : vf_n32 r := by
  unfold aN32 at h
  have h := of_decide_eq_true h
  exact h
theorem aN64_ok {r : UInt64} (h : aN64 r = true) : vf_n64 r := by
  unfold aN64 at h
  have h := of_decide_eq_true h
  exact h
section AROWS
variable {p : Program} {l : Launch} {e : Env} {R : Room} {s : State} {m : MethodId} {args : Array Value} {below : List Frame} {meth : Method} {c : Code} {H : Heap} {locs : List Loc} {cells slots : Nat} {Q : State → Prop}
variable {cc : ByteArray} {pc : Nat} {ls : Array Slot} {ad : Nat → Nat} {unk : Nat → Value} {own : String}
theorem a_ldcwf (hexec : p.tables.exec = Jvm.exec) (hb : c.code = cc) {own : String} {index : Nat} {v : UInt32} {rest : List Value} (hown : s.vm.findClass own = some m.cls) (hconst : (Jvm.Cond.constantFloat own index v).before args s = true) (hdg : decode cc pc = .ok (.ldc_w index, 3)) (k : W p l e R s m args below meth c H locs cells slots Q (F0 m (pc + 3) ls (.float v :: rest))) : W p l e R s m args below meth c H locs cells slots Q (F0 m pc ls rest) := by
  intro T hT X
  obtain ⟨t, a, b⟩ := k T hT X
  obtain ⟨kk, cf, hk, hcf, hcp⟩ := Cond.constantFloat_spec hown hconst
  obtain ⟨k', hk', he⟩ := X.warmed.alike.2.2 _ _ hk
  refine ⟨t, ?_, b⟩
  jvm_step X.here [X.here.top, hexec, hb, hdg, ldc_w.wp_float (s := T) (f := F0 m pc ls rest) X.here.top hk' (by rw [he]; exact hcf) hcp]
  exact a
set_option maxHeartbeats 4000000 in
theorem aPure_ok (hx : p.tables.exec = Jvm.exec) (hb : c.code = cc) (hown : s.vm.findClass own = some m.cls) {I : Instr} {v : Value} {st st' : List Value} (h : aPure I v st = some st') (hdg : decode cc pc = .ok (I, aLen I)) (hld : aLd ad own I v args s)
    (k : W p l e R s m args below meth c H locs cells slots Q (F0 m (pc + aLen I) ls (aVs ad unk st'))) : W p l e R s m args below meth c H locs cells slots Q (F0 m pc ls (aVs ad unk st)) := by
  cases I with
  | aconst_null =>
    simp only [aPure] at h
    cases h
    exact lv_null hx hb hdg k
  | iconst n =>
    simp only [aPure] at h
    cases h
    exact lv_iconst hx hb hdg rfl k
  | bipush n =>
    simp only [aPure] at h
    cases h
    exact lv_bipush hx hb hdg rfl k
  | sipush n =>
    simp only [aPure] at h
    cases h
    exact lv_sipush hx hb hdg rfl k
  | lconst n =>
    simp only [aPure] at h
    cases h
    exact lv_lconst hx hb hdg rfl k
  | fconst n =>
    have hn : n = 0 ∨ n = 1 ∨ n = 2 := by omega
    rcases hn with rfl | rfl | rfl
    · simp only [aPure] at h
      cases h
      exact lv_fconst0 hx hb hdg k
    · simp only [aPure] at h
      cases h
      exact lv_fconst1 hx hb hdg k
    · simp [aPure] at h
  | ldc i =>
    simp only [aPure] at h
    cases h
    cases v with
    | int x => exact lv_ldc hx hb hown hld hdg k
    | float x => exact lv_ldcf hx hb hown hld hdg k
    | ref q => exact hld.elim fun tx hR => va_ldcS hx hb hown hR hdg k
    | _ => exact hld.elim
  | ldc_w i =>
    simp only [aPure] at h
    cases h
    cases v with
    | int x => exact lv_ldcw hx hb hown hld hdg k
    | float x => exact a_ldcwf hx hb hown hld hdg k
    | _ => exact hld.elim
  | ldc2_w i =>
    simp only [aPure] at h
    cases h
    cases v with
    | long x => exact lv_ldc2 hx hb hown hld hdg k
    | _ => exact hld.elim
  | iadd =>
    simp only [aPure] at h
    split at h
    · cases h
      exact lv_iadd hx hb hdg k
    · cases h
  | isub =>
    simp only [aPure] at h
    split at h
    · cases h
      exact lv_isub hx hb hdg k
    · cases h
  | imul =>
    simp only [aPure] at h
    split at h
    · cases h
      exact lv_imul hx hb hdg k
    · cases h
  | iand =>
    simp only [aPure] at h
    split at h
    · cases h
      exact lv_iand hx hb hdg k
    · cases h
  | ior =>
    simp only [aPure] at h
    split at h
    · cases h
      exact lv_ior hx hb hdg k
    · cases h
  | ixor =>
    simp only [aPure] at h
    split at h
    · cases h
      exact lv_ixor hx hb hdg k
    · cases h
  | ineg =>
    simp only [aPure] at h
    split at h
    · cases h
      exact lv_ineg hx hb hdg k
    · cases h
  | ladd =>
    simp only [aPure] at h
    split at h
    · cases h
      exact lv_ladd hx hb hdg k
    · cases h
  | lsub =>
    simp only [aPure] at h
    split at h
    · cases h
      exact lv_lsub hx hb hdg k
    · cases h
  | lmul =>
    simp only [aPure] at h
    split at h
    · cases h
      exact lv_lmul hx hb hdg k
    · cases h
  | ishl =>
    simp only [aPure] at h
    split at h
    · cases h
      exact lv_ishl hx hb hdg k
    · cases h
  | ishr =>
    simp only [aPure] at h
    split at h
    · cases h
      exact lv_ishr hx hb hdg k
    · cases h
  | fneg =>
    simp only [aPure] at h
    split at h
    · cases h
      exact lv_fneg hx hb hdg k
    · cases h
  | fcmp op =>
    simp only [aPure] at h
    split at h
    · cases h
      exact lv_fcmp hx hb hdg k
    · cases h
  | dcmp op =>
    simp only [aPure] at h
    split at h
    · cases h
      exact lv_dcmp hx hb hdg k
    · cases h
  | i2f =>
    simp only [aPure] at h
    split at h
    · cases h
      exact lv_i2f hx hb hdg k
    · cases h
  | f2i =>
    simp only [aPure] at h
    split at h
    · cases h
      exact lv_f2i hx hb hdg k
    · cases h
  | i2l =>
    simp only [aPure] at h
    split at h
    · cases h
      exact lv_i2l hx hb hdg rfl k
    · cases h
  | l2i =>
    simp only [aPure] at h
    split at h
    · cases h
      exact lv_l2i hx hb hdg rfl k
    · cases h
  | i2b =>
    simp only [aPure] at h
    split at h
    · cases h
      exact lv_i2b hx hb hdg rfl k
    · cases h
  | i2c =>
    simp only [aPure] at h
    split at h
    · cases h
      exact lv_i2c hx hb hdg rfl k
    · cases h
  | iushr =>
    simp only [aPure] at h
    split at h
    · cases h
      exact lv_iushr hx hb hdg rfl k
    · cases h
  | idiv =>
    simp only [aPure] at h
    split at h
    · split at h
      · cases h
      · rename_i hne
        cases h
        exact lv_idiv hx hb hdg hne k
    · cases h
  | irem =>
    simp only [aPure] at h
    split at h
    · split at h
      · cases h
      · rename_i hne
        cases h
        exact lv_irem hx hb hdg hne k
    · cases h
  | fadd =>
    simp only [aPure] at h
    split at h
    · split at h
      · rename_i hne
        cases h
        exact lv_fadd hx hb hdg (aN32_ok hne) k
      · cases h
    · cases h
  | fsub =>
    simp only [aPure] at h
    split at h
    · split at h
      · rename_i hne
        cases h
        exact lv_fsub hx hb hdg (aN32_ok hne) k
      · cases h
    · cases h
  | fmul =>
    simp only [aPure] at h
    split at h
    · split at h
      · rename_i hne
        cases h
        exact lv_fmul hx hb hdg (aN32_ok hne) k
      · cases h
    · cases h
  | fdiv =>
    simp only [aPure] at h
    split at h
    · split at h
      · rename_i hne
        cases h
        exact lv_fdiv hx hb hdg (aN32_ok hne) k
      · cases h
    · cases h
  | f2d =>
    simp only [aPure] at h
    split at h
    · split at h
      · rename_i hne
        cases h
        exact lv_f2d hx hb hdg (aN64_ok hne) k
      · cases h
    · cases h
  | lcmp =>
    simp only [aPure] at h
    split at h
    · cases h
      exact W.lcmp hx hb hdg k
    · cases h
  | dup =>
    simp only [aPure] at h
    split at h
    · cases h
      exact lv_dup hx hb hdg rfl k
    · cases h
      exact lv_dup hx hb hdg rfl k
    · cases h
      exact lv_dup hx hb hdg rfl k
    · cases h
      exact lv_dup hx hb hdg rfl k
    · cases h
  | pop =>
    simp only [aPure] at h
    split at h
    · cases h
      exact lv_pop hx hb hdg rfl k
    · cases h
      exact lv_pop hx hb hdg rfl k
    · cases h
      exact lv_pop hx hb hdg rfl k
    · cases h
      exact lv_pop hx hb hdg rfl k
    · cases h
  | pop2 =>
    simp only [aPure] at h
    split at h
    · cases h
      exact lv_pop2_2 hx hb hdg rfl k
    · cases h
      exact lv_pop2_2 hx hb hdg rfl k
    · cases h
  | _ => simp [aPure] at h
set_option maxHeartbeats 4000000 in
theorem aBr_ok (hx : p.tables.exec = Jvm.exec) (hb : c.code = cc) {I : Instr} {pc' n : Nat} {st st' : List Value} (h : aBr I pc st = some (pc', st')) (hdg : decode cc pc = .ok (I, n)) (hn : n = aLen I ∨ (∃ d ps, I = .lookupswitch d ps) ∨ (∃ d lo hi os, I = .tableswitch d lo hi os))
    (k : W p l e R s m args below meth c H locs cells slots Q (F0 m pc' ls (aVs ad unk st'))) : W p l e R s m args below meth c H locs cells slots Q (F0 m pc ls (aVs ad unk st)) := by
  have hmap : ∀ {o : Int} {r : List Value}, (aTgt pc o).map (fun t => (t, r)) = some (pc', st') → (pc : Int) + o = (pc' : Int) ∧ r = st' := by
    intro o r h
    cases ht : aTgt pc o with
    | none => rw [ht] at h; cases h
    | some t => rw [ht] at h; cases h; exact ⟨aTgt_eq ht, rfl⟩
  cases I with
  | goto o =>
    have hn : n = 3 := by rcases hn with h1 | ⟨_, _, h1⟩ | ⟨_, _, _, _, h1⟩ <;> first | exact h1 | cases h1
    subst hn
    simp only [aBr] at h
    obtain ⟨h1, rfl⟩ := hmap h
    exact lv_goto hx hb hdg h1 k
  | ifCond cnd o =>
    have hn : n = 3 := by rcases hn with h1 | ⟨_, _, h1⟩ | ⟨_, _, _, _, h1⟩ <;> first | exact h1 | cases h1
    subst hn
    cases cnd
    · simp only [aBr] at h
      split at h
      · obtain ⟨t, ht, h⟩ := Option.map_eq_some_iff.mp h
        exact lv_if_eq hx hb hdg (aTgt_eq ht) (fun hc => by rw [if_pos hc] at h; cases h; exact k) (fun hc => by rw [if_neg hc] at h; cases h; exact k)
      · cases h
    · simp only [aBr] at h
      split at h
      · obtain ⟨t, ht, h⟩ := Option.map_eq_some_iff.mp h
        exact lv_if_ne hx hb hdg (aTgt_eq ht) (fun hc => by rw [if_neg hc] at h; cases h; exact k) (fun hc => by rw [if_pos hc] at h; cases h; exact k)
      · cases h
    · simp only [aBr] at h
      split at h
      · obtain ⟨t, ht, h⟩ := Option.map_eq_some_iff.mp h
        exact lv_if_lt hx hb hdg (aTgt_eq ht) (fun hc => by rw [if_pos hc] at h; cases h; exact k) (fun hc => by rw [if_neg hc] at h; cases h; exact k)
      · cases h
    · simp only [aBr] at h
      split at h
      · obtain ⟨t, ht, h⟩ := Option.map_eq_some_iff.mp h
        exact lv_if_ge hx hb hdg (aTgt_eq ht) (fun hc => by rw [if_pos hc] at h; cases h; exact k) (fun hc => by rw [if_neg hc] at h; cases h; exact k)
      · cases h
    · simp only [aBr] at h
      split at h
      · obtain ⟨t, ht, h⟩ := Option.map_eq_some_iff.mp h
        exact lv_if_gt hx hb hdg (aTgt_eq ht) (fun hc => by rw [if_pos hc] at h; cases h; exact k) (fun hc => by rw [if_neg hc] at h; cases h; exact k)
      · cases h
    · simp only [aBr] at h
      split at h
      · obtain ⟨t, ht, h⟩ := Option.map_eq_some_iff.mp h
        exact lv_if_le hx hb hdg (aTgt_eq ht) (fun hc => by rw [if_pos hc] at h; cases h; exact k) (fun hc => by rw [if_neg hc] at h; cases h; exact k)
      · cases h
  | if_icmp cnd o =>
    have hn : n = 3 := by rcases hn with h1 | ⟨_, _, h1⟩ | ⟨_, _, _, _, h1⟩ <;> first | exact h1 | cases h1
    subst hn
    cases cnd
    · simp only [aBr] at h
      split at h
      · obtain ⟨t, ht, h⟩ := Option.map_eq_some_iff.mp h
        exact lv_icmp_eq hx hb hdg (aTgt_eq ht) (fun hc => by rw [if_pos hc] at h; cases h; exact k) (fun hc => by rw [if_neg hc] at h; cases h; exact k)
      · cases h
    · simp only [aBr] at h
      split at h
      · obtain ⟨t, ht, h⟩ := Option.map_eq_some_iff.mp h
        exact lv_icmp_ne hx hb hdg (aTgt_eq ht) (fun hc => by rw [if_neg hc] at h; cases h; exact k) (fun hc => by rw [if_pos hc] at h; cases h; exact k)
      · cases h
    · simp only [aBr] at h
      split at h
      · obtain ⟨t, ht, h⟩ := Option.map_eq_some_iff.mp h
        exact lv_icmp_lt hx hb hdg (aTgt_eq ht) (fun hc => by rw [if_pos hc] at h; cases h; exact k) (fun hc => by rw [if_neg hc] at h; cases h; exact k)
      · cases h
    · simp only [aBr] at h
      split at h
      · obtain ⟨t, ht, h⟩ := Option.map_eq_some_iff.mp h
        exact lv_icmp_ge hx hb hdg (aTgt_eq ht) (fun hc => by rw [if_pos hc] at h; cases h; exact k) (fun hc => by rw [if_neg hc] at h; cases h; exact k)
      · cases h
    · simp only [aBr] at h
      split at h
      · obtain ⟨t, ht, h⟩ := Option.map_eq_some_iff.mp h
        exact lv_icmp_gt hx hb hdg (aTgt_eq ht) (fun hc => by rw [if_pos hc] at h; cases h; exact k) (fun hc => by rw [if_neg hc] at h; cases h; exact k)
      · cases h
    · simp only [aBr] at h
      split at h
      · obtain ⟨t, ht, h⟩ := Option.map_eq_some_iff.mp h
        exact lv_icmp_le hx hb hdg (aTgt_eq ht) (fun hc => by rw [if_pos hc] at h; cases h; exact k) (fun hc => by rw [if_neg hc] at h; cases h; exact k)
      · cases h
  | ifnull o =>
    have hn : n = 3 := by rcases hn with h1 | ⟨_, _, h1⟩ | ⟨_, _, _, _, h1⟩ <;> first | exact h1 | cases h1
    subst hn
    simp only [aBr] at h
    split at h
    · obtain ⟨h1, rfl⟩ := hmap h
      exact lv_ifnullN hx hb hdg h1 k
    · cases h
      exact lv_ifnull hx hb hdg k
    · cases h
  | ifnonnull o =>
    have hn : n = 3 := by rcases hn with h1 | ⟨_, _, h1⟩ | ⟨_, _, _, _, h1⟩ <;> first | exact h1 | cases h1
    subst hn
    simp only [aBr] at h
    split at h
    · obtain ⟨h1, rfl⟩ := hmap h
      exact lv_ifnonnull hx hb hdg h1 k
    · cases h
      exact lv_ifnonnullN hx hb hdg k
    · cases h
  | tableswitch d lo hi offs =>
    simp only [aBr] at h
    split at h
    · split at h
      · rename_i hc
        obtain ⟨h1, rfl⟩ := hmap h
        exact lv_tableOut hx hb hdg hc h1 k
      · rename_i x r hc
        have hc1 : ¬ x.toInt < lo := fun q => hc (Or.inl q)
        have hc2 : ¬ hi < x.toInt := fun q => hc (Or.inr q)
        cases ho : offs[(x.toInt - lo).toNat]? with
        | none => rw [ho] at h; cases h
        | some o =>
          rw [ho] at h
          obtain ⟨h1, rfl⟩ := hmap h
          exact lv_tableIn hx hb hdg hc1 hc2 ho h1 k
    · cases h
  | lookupswitch d ps =>
    simp only [aBr] at h
    split at h
    · split at h
      · rename_i hc
        obtain ⟨h1, rfl⟩ := hmap h
        exact lv_lookup hx hb hdg hc rfl h1 k
      · cases h
    · cases h
  | _ => simp [aBr] at h
set_option maxHeartbeats 4000000 in
theorem aLoc_ok (hu : ∀ i, (unk i).category = 1) (hx : p.tables.exec = Jvm.exec) (hb : c.code = cc) {I : Instr} {nl : Nat} {lc lc' : aLc} {st st' : List Value} (h : aLoc nl I lc st = some (lc', st')) (hdg : decode cc pc = .ok (I, aLen I)) (hl : lv_has ls nl (aLs ad unk lc))
    (k : ∀ ls' : Array Slot, lv_has ls' nl (aLs ad unk lc') → W p l e R s m args below meth c H locs cells slots Q (F0 m (pc + aLen I) ls' (aVs ad unk st'))) : W p l e R s m args below meth c H locs cells slots Q (F0 m pc ls (aVs ad unk st)) := by
  have f1 := fun (i : Nat) (v : Value) => aLs_f1 (ad := ad) (unk := unk) hu lc i v
  have f2 := fun (i : Nat) (v : Value) => aLs_f2 (ad := ad) (unk := unk) hu lc i v
  cases I with
  | iload_n i =>
    simp only [aLoc, aLdI] at h
    split at h
    · rename_i hg
      cases h
      exact lv_iload_n hx hb hdg rfl (aLs_at hl hg) (k ls hl)
    · cases h
  | istore_n i =>
    simp only [aLoc, aStI] at h
    split at h
    · split at h
      · rename_i hg
        cases h
        exact lv_istore_n hx hb hdg rfl hl hg (f1 _ (.int _)) k
      · cases h
    · cases h
  | iload i =>
    simp only [aLoc, aLdI] at h
    split at h
    · rename_i hg
      cases h
      exact lv_iload hx hb hdg (aLs_at hl hg) (k ls hl)
    · cases h
  | istore i =>
    simp only [aLoc, aStI] at h
    split at h
    · split at h
      · rename_i hg
        cases h
        exact lv_istore hx hb hdg hl hg (f1 _ (.int _)) k
      · cases h
    · cases h
  | lload_n i =>
    simp only [aLoc, aLdL] at h
    split at h
    · rename_i hg
      cases h
      exact lv_lload_n hx hb hdg rfl (aLs_at hl hg) (k ls hl)
    · cases h
  | lstore_n i =>
    simp only [aLoc, aStL] at h
    split at h
    · split at h
      · rename_i hg
        cases h
        exact lv_lstore_n hx hb hdg rfl hl hg (f2 _ (.long _)) k
      · cases h
    · cases h
  | lload i =>
    simp only [aLoc, aLdL] at h
    split at h
    · rename_i hg
      cases h
      exact lv_lload hx hb hdg (aLs_at hl hg) (k ls hl)
    · cases h
  | lstore i =>
    simp only [aLoc, aStL] at h
    split at h
    · split at h
      · rename_i hg
        cases h
        exact lv_lstore hx hb hdg hl hg (f2 _ (.long _)) k
      · cases h
    · cases h
  | fload_n i =>
    simp only [aLoc, aLdF] at h
    split at h
    · rename_i hg
      cases h
      exact lv_fload_n hx hb hdg rfl (aLs_at hl hg) (k ls hl)
    · cases h
  | fstore_n i =>
    simp only [aLoc, aStF] at h
    split at h
    · split at h
      · rename_i hg
        cases h
        exact lv_fstore_n hx hb hdg rfl hl hg (f1 _ (.float _)) k
      · cases h
    · cases h
  | fload i =>
    simp only [aLoc, aLdF] at h
    split at h
    · rename_i hg
      cases h
      exact lv_fload hx hb hdg (aLs_at hl hg) (k ls hl)
    · cases h
  | fstore i =>
    simp only [aLoc, aStF] at h
    split at h
    · split at h
      · rename_i hg
        cases h
        exact lv_fstore hx hb hdg hl hg (f1 _ (.float _)) k
      · cases h
    · cases h
  | dload_n i =>
    simp only [aLoc, aLdD] at h
    split at h
    · rename_i hg
      cases h
      exact lv_dload_n hx hb hdg rfl (aLs_at hl hg) (k ls hl)
    · cases h
  | dstore_n i =>
    simp only [aLoc, aStD] at h
    split at h
    · split at h
      · rename_i hg
        cases h
        exact lv_dstore_n hx hb hdg rfl hl hg (f2 _ (.double _)) k
      · cases h
    · cases h
  | dload i =>
    simp only [aLoc, aLdD] at h
    split at h
    · rename_i hg
      cases h
      exact lv_dload hx hb hdg (aLs_at hl hg) (k ls hl)
    · cases h
  | dstore i =>
    simp only [aLoc, aStD] at h
    split at h
    · split at h
      · rename_i hg
        cases h
        exact lv_dstore hx hb hdg hl hg (f2 _ (.double _)) k
      · cases h
    · cases h
  | aload_n i =>
    simp only [aLoc, aLdA] at h
    split at h
    · rename_i hg
      cases h
      exact lv_aload_n hx hb hdg rfl (aLs_at hl hg) (k ls hl)
    · rename_i hg
      cases h
      exact lv_aload_nN hx hb hdg rfl (aLs_at hl hg) (k ls hl)
    · cases h
  | astore_n i =>
    simp only [aLoc, aStA] at h
    split at h
    · split at h
      · rename_i hg
        cases h
        exact lv_astore_n hx hb hdg rfl hl hg (f1 _ (.ref _)) k
      · cases h
    · split at h
      · rename_i hg
        cases h
        exact lv_astore_nN hx hb hdg rfl hl hg (f1 _ .null) k
      · cases h
    · cases h
  | aload i =>
    simp only [aLoc, aLdA] at h
    split at h
    · rename_i hg
      cases h
      exact lv_aload hx hb hdg (aLs_at hl hg) (k ls hl)
    · rename_i hg
      cases h
      exact lv_aloadN hx hb hdg (aLs_at hl hg) (k ls hl)
    · cases h
  | astore i =>
    simp only [aLoc, aStA] at h
    split at h
    · split at h
      · rename_i hg
        cases h
        exact lv_astore hx hb hdg hl hg (f1 _ (.ref _)) k
      · cases h
    · split at h
      · rename_i hg
        cases h
        exact lv_astoreN hx hb hdg hl hg (f1 _ .null) k
      · cases h
    · cases h
  | iinc i n =>
    simp only [aLoc] at h
    split at h
    · split at h
      · rename_i x hg hi
        cases h
        obtain ⟨k0, hk0⟩ := List.getElem?_of_mem (List.mem_map.mpr ⟨_, aGet_at hg, rfl⟩ : (i, aV ad unk (.int x)) ∈ aLs ad unk lc)
        exact lv_iinc hx hb hdg hl hk0 rfl hi (f1 _ (.int _)) k
      · cases h
    · cases h
  | _ => simp [aLoc] at h
end AROWS
end
section
abbrev aCl : Type := List (vw_C × List FieldType)
/-- a class whose objects the system makes; String's objects are constants -/
abbrev aOwn (r : vw_C × List FieldType) : Prop := r.1.1 ≠ "java/lang/String"
/-- what the tables say of the classes -/
def aClOK (cl : aCl) (U : State) : Prop := ∀ (i : Nat) (r : vw_C × List FieldType), cl[i]? = some r → (∀ k, k < r.1.2.2 → ∀ cf kf fi f, U.fieldFound? (r.1.2.1 k).1 (r.1.2.1 k).2.1 (r.1.2.1 k).2.2.1 = some (cf, kf, fi, f) → f.isStatic = false) ∧ r.2.length = r.1.2.2 ∧
  (∀ k ty, r.2[k]? = some ty → parseFieldDescriptor (r.1.2.1 k).2.2.1 = some ty) ∧ (∀ a, a < r.1.2.2 → ∀ b, b < r.1.2.2 → a ≠ b → (r.1.2.1 a).2.1 ≠ (r.1.2.1 b).2.1) ∧ (aOwn r → ∀ w ∈ u_ws r.1.1 r.1.2.1 r.1.2.2, ∀ A, w.before A U = true)
def aK (D : va_G) (cl : aCl) (U : State) : Prop := ∀ (i : Nat) (r : vw_C × List FieldType), cl[i]? = some r → (∀ k, k < r.1.2.2 → SlotIs U (r.1.2.1 k).1 (r.1.2.1 k).2.1 (r.1.2.1 k).2.2.1 (D.2 i k)) ∧ U.vm.findClass r.1.1 = some (D.1 i) ∧ (aOwn r → ∃ kC : Class, U.vm.classes[D.1 i]? = some kC ∧ kC.kind = .ordinary)
theorem aK.u {D : va_G} {cl : aCl} {U : State} (h : aK D cl U) {i : Nat} {r : vw_C × List FieldType} (hr : cl[i]? = some r) (ho : aOwn r) : u_Kn U r.1.1 r.1.2.1 r.1.2.2 (D.1 i) (D.2 i) := ⟨(h i r hr).1, (h i r hr).2.1, (h i r hr).2.2 ho⟩
def aAt (s0 : State) (D : va_G) (cl : aCl) (ad : Nat → Nat) (unk : Nat → Value) (K p : Nat) (o : aO) (H : Heap) : Prop :=
  ∃ cell : Cell, H[ad p]? = some cell ∧ cell.vm ≠ .unknown ∧ cell.vm.isStatics = false ∧ (K ≤ p → cell.vm = .none ∧ cell.monitor = {}) ∧
    ((o.1 < 8 ∧ s0.isArrayOf cell (aTy o.1) ∧ (o.2.length ≤ cell.slots.size ∧ cell.slots.size.toInt32 = Int32.ofNat o.2.length) ∧ ∀ (j : Nat) (v : Value), o.2[j]? = some v → cell.slots[j]? = some (aV ad unk v)) ∨
      (∃ (i : Nat) (r : vw_C × List FieldType), o.1 = 2 * i + 8 ∧ cl[i]? = some r ∧ cell.cls = D.1 i ∧ ∀ (k : Nat) (v : Value), k < r.1.2.2 → o.2[k]? = some v → cell.slots[D.2 i k]? = some (aV ad unk v)) ∨
      ∃ (i : Nat) (r : vw_C × List FieldType) (kC : Class), o.1 = 2 * i + 9 ∧ cl[i]? = some r ∧ s0.vm.Alike s0.vm ∧ (∀ U : State, s0.WarmedH U.vm → ∃ kC', U.vm.classes[D.1 i]? = some kC' ∧ blank (D.1 i) kC' = blank (D.1 i) kC) ∧ cell = blank (D.1 i) kC)
def aRel (s0 : State) (D : va_G) (cl : aCl) (ad : Nat → Nat) (unk : Nat → Value) (K : Nat) (h : aH) (H : Heap) : Prop :=
  K ≤ h.length ∧ H.size = ad h.length ∧ (∀ q : Nat, q < ad K → H[q]? = s0.heap[q]?) ∧ ∀ (p : Nat) (o : aO), h[p]? = some o → aAt s0 D cl ad unk K p o H
/-- places are at different addresses; new ones come one behind another -/
def aAd (ad : Nat → Nat) (K : Nat) : Prop := (∀ i j, ad i = ad j → i = j) ∧ ∀ i, K ≤ i → ad (i + 1) = ad i + 1
theorem aAd.ge {ad : Nat → Nat} {K : Nat} (h : aAd ad K) {p : Nat} (hp : K ≤ p) : ad K ≤ ad p := by
  obtain ⟨d, rfl⟩ := Nat.le.dest hp
  induction d with
  | zero => exact Nat.le_refl _
  | succ d ih =>
    have := h.2 (K + d) (by omega)
    have := ih (by omega)
    show ad K ≤ ad (K + d + 1)
    omega
def aSz (cl : aCl) (o : aO) : Nat := if o.1 < 8 then o.2.length else match cl[(o.1 - 8) / 2]? with | some r => r.1.2.2 | none => 0
def aSzs (cl : aCl) (h : aH) : Nat := (h.map (aSz cl)).sum
theorem aSzs_push (cl : aCl) (h : aH) (o : aO) : aSzs cl (h ++ [o]) = aSzs cl h + aSz cl o := by
  simp [aSzs, List.map_append, List.sum_append]
theorem aSzs_set (cl : aCl) : ∀ (h : aH) (p : Nat) (o o' : aO), h[p]? = some o → aSz cl o' = aSz cl o → aSzs cl (h.set p o') = aSzs cl h
  | [], _, _, _, h, _ => by simp at h
  | x :: l, 0, o, o', h, e => by
    simp only [List.getElem?_cons_zero, Option.some.injEq] at h
    subst h
    simp [aSzs, e]
  | x :: l, p + 1, o, o', h, e => by
    simp only [List.getElem?_cons_succ] at h
    have := aSzs_set cl l p o o' h e
    simp only [aSzs, List.set_cons_succ, List.map_cons, List.sum_cons] at this ⊢
    omega
theorem aAt.kept {s0 : State} {D : va_G} {cl : aCl} {ad : Nat → Nat} {unk : Nat → Value} {K p : Nat} {o : aO} {H H1 : Heap} (h : aAt s0 D cl ad unk K p o H) (e : H1[ad p]? = H[ad p]?) : aAt s0 D cl ad unk K p o H1 := by
  obtain ⟨cell, h1, h2⟩ := h
  exact ⟨cell, e.trans h1, h2⟩
theorem aRel.set {s0 : State} {D : va_G} {cl : aCl} {ad : Nat → Nat} {unk : Nat → Value} {K p : Nat} {o0 o : aO} {h : aH} {H H1 : Heap} (hA : aAd ad K) (hR : aRel s0 D cl ad unk K h H) (h0 : h[p]? = some o0) (hp : K ≤ p)
    (he : aAt s0 D cl ad unk K p o H1) (hz : H1.size = H.size) (hq : ∀ q : Nat, q ≠ ad p → H1[q]? = H[q]?) : aRel s0 D cl ad unk K (h.set p o) H1 := by
  obtain ⟨r1, r2, r3, r4⟩ := hR
  have hl : p < h.length := (List.getElem?_eq_some_iff.mp h0).1
  refine ⟨by rw [List.length_set]; exact r1, by rw [List.length_set, hz]; exact r2, fun q hqK => ?_, fun i x hi => ?_⟩
  · rw [hq q (by have := hA.ge hp; omega)]
    exact r3 q hqK
  · by_cases hip : i = p
    · subst hip
      rw [List.getElem?_set_self hl] at hi
      cases hi
      exact he
    · rw [List.getElem?_set_ne (Ne.symm hip)] at hi
      exact (r4 i x hi).kept (hq _ (fun z => hip (hA.1 _ _ z)))
theorem aRel.lt {s0 : State} {D : va_G} {cl : aCl} {ad : Nat → Nat} {unk : Nat → Value} {K p : Nat} {o : aO} {h : aH} {H : Heap} (hR : aRel s0 D cl ad unk K h H) (h0 : h[p]? = some o) : ad p < H.size := by
  obtain ⟨cell, h1, -⟩ := hR.2.2.2 p o h0
  exact (Array.getElem?_eq_some_iff.mp h1).1
theorem aRel.push {s0 : State} {D : va_G} {cl : aCl} {ad : Nat → Nat} {unk : Nat → Value} {K : Nat} {o : aO} {h : aH} {H H1 : Heap} (hA : aAd ad K) (hR : aRel s0 D cl ad unk K h H)
    (hz : H1.size = H.size + 1) (hq : ∀ q : Nat, q < H.size → H1[q]? = H[q]?) (he : aAt s0 D cl ad unk K h.length o H1) : aRel s0 D cl ad unk K (h ++ [o]) H1 := by
  have hR0 := hR
  obtain ⟨r1, r2, r3, r4⟩ := hR
  refine ⟨by rw [List.length_append]; omega, ?_, fun q hqK => ?_, fun i x hi => ?_⟩
  · rw [List.length_append, hz, r2]
    show ad h.length + 1 = ad (h.length + 1)
    exact (hA.2 _ r1).symm
  · rw [hq q (by have := hA.ge r1; omega)]
    exact r3 q hqK
  · by_cases hl : i < h.length
    · rw [List.getElem?_append_left hl] at hi
      exact (r4 i x hi).kept (hq _ (hR0.lt hi))
    · rw [List.getElem?_append_right (by omega)] at hi
      have hz0 : i - h.length < 1 := (List.getElem?_eq_some_iff.mp hi).1
      have hk0 : i = h.length := by omega
      subst hk0
      rw [Nat.sub_self] at hi
      cases hi
      exact he
/-- what a heap instruction needs of the tables -/
def aFl (own : String) (i : Nat) (f : String × String × String × Bool) (args : Array Value) (s : State) : Prop := (Jvm.Cond.fieldLink own i f.1 f.2.1 f.2.2.1).before args s = true ∨ ∃ host, (Jvm.Cond.fieldLinkNest own i f.1 f.2.1 f.2.2.1 host).before args s = true
def aHk (s0 : State) (cl : aCl) (ad : Nat → Nat) (unk : Nat → Value) (K : Nat) (own : MethodName) (I : Instr) (lk : aLk) (args : Array Value) (s : State) : Prop := match I with
  | .getfield i => ∃ r, cl[lk.1]? = some r ∧ lk.2.1 < r.1.2.2 ∧ aFl own.cls i (r.1.2.1 lk.2.1) args s
  | .putfield i => ∃ r, cl[lk.1]? = some r ∧ lk.2.1 < r.1.2.2 ∧ aOwn r ∧ ((aFl own.cls i (r.1.2.1 lk.2.1) args s ∧ (r.1.2.1 lk.2.1).2.2.2 = false) ∨
      ((Jvm.Cond.fieldLink own.cls i (r.1.2.1 lk.2.1).1 (r.1.2.1 lk.2.1).2.1 (r.1.2.1 lk.2.1).2.2.1).before args s = true ∧ (r.1.2.1 lk.2.1).2.2.2 = true ∧ (r.1.2.1 lk.2.1).1 = own.cls ∧ own.name = "<init>"))
  | .new i => ∃ r, cl[lk.1]? = some r ∧ aOwn r ∧ (Jvm.Cond.classLink own.cls i r.1.1).before args s = true ∧ (Jvm.Cond.instantiable r.1.1 r.1.2.2).before args s = true ∧ (Jvm.Cond.initialized r.1.1).before args s = true
  | .newarray t => (Jvm.Cond.arrayClass (newarray.typeOf t)).before args s = true
  | .getstatic i => ∃ C n d, ((Jvm.Cond.fieldLink own.cls i C n d).before args s = true ∨ ∃ host, (Jvm.Cond.fieldLinkNest own.cls i C n d host).before args s = true) ∧ va_Z C n d (aV ad unk lk.2.2.2) (fun q => ad K ≤ q) s0 s0.heap
  | _ => True
theorem aAd.lin {ad : Nat → Nat} {K : Nat} (h : aAd ad K) : ∀ d, ad (K + d) = ad K + d
  | 0 => rfl
  | d + 1 => by
    have := h.2 (K + d) (by omega)
    have := aAd.lin h d
    show ad (K + d + 1) = _
    omega
theorem aRel.nost {s0 : State} {D : va_G} {cl : aCl} {ad : Nat → Nat} {unk : Nat → Value} {K : Nat} {h : aH} {H : Heap} (hA : aAd ad K) (hR : aRel s0 D cl ad unk K h H) {q : Nat} {cell : Cell} (hq : ad K ≤ q) (hc : H[q]? = some cell) : cell.vm.isStatics = false := by
  have hlt : q < H.size := (Array.getElem?_eq_some_iff.mp hc).1
  obtain ⟨r1, r2, -, r4⟩ := hR
  have e1 := hA.lin (q - ad K)
  have e2 := hA.lin (h.length - K)
  rw [show K + (h.length - K) = h.length by omega] at e2
  have hp : K + (q - ad K) < h.length := by omega
  obtain ⟨cell', c1, -, c3, -⟩ := r4 _ _ (List.getElem?_eq_getElem hp)
  rw [e1, show ad K + (q - ad K) = q by omega] at c1
  cases Option.some.inj (c1.symm.trans hc)
  exact c3
end
section
section AHEAP
variable {p : Program} {l : Launch} {e : Env} {R : Room} {s : State} {m : MethodId} {args : Array Value} {below : List Frame} {meth : Method} {c : Code} {H : Heap} {locs : List Loc} {cells slots : Nat} {Q : State → Prop}
variable {cc : ByteArray} {pc : Nat} {ls : Array Slot} {ad : Nat → Nat} {unk : Nat → Value} {own : MethodName} {s0 : State} {D : va_G} {cl : aCl} {K : Nat}
theorem aArr_of (hal : s0.vm.Alike s.vm) {hp : aH} (hR : aRel s0 D cl ad unk K hp H) {q kd : Nat} {vs : List Value} (h0 : hp[q]? = some (kd, vs)) (hk : kd < 8) :
    ∃ cell : Cell, H[ad q]? = some cell ∧ cell.vm ≠ .unknown ∧ s.isArrayOf cell (aTy kd) ∧ (vs.length ≤ cell.slots.size ∧ cell.slots.size.toInt32 = Int32.ofNat vs.length) ∧ ∀ (j : Nat) (v : Value), vs[j]? = some v → cell.slots[j]? = some (aV ad unk v) := by
  obtain ⟨cell, h1, h2, -, -, h5⟩ := hR.2.2.2 q _ h0
  rcases h5 with ⟨-, h6, h7, h8⟩ | ⟨i, r, e, -⟩ | ⟨i, r, kC, e, -⟩
  · exact ⟨cell, h1, h2, State.isArrayOf_alike hal h6, h7, h8⟩
  · exfalso
    have e : kd = 2 * i + 8 := e
    omega
  · exfalso
    have e : kd = 2 * i + 9 := e
    omega
theorem aRd_ok (hx : p.tables.exec = Jvm.exec) (hb : c.code = cc) (hal : s0.vm.Alike s.vm) {hp hp' : aH} {st st' : List Value} {kd : Nat} {I : Instr} (hkI : (kd = 0 ∧ I = .iaload) ∨ (kd = 1 ∧ I = .caload) ∨ (kd = 2 ∧ I = .laload) ∨ (kd = 3 ∧ I = .faload) ∨ (kd = 4 ∧ I = .daload) ∨ (kd = 5 ∧ I = .baload))
    (h : aRd kd st hp = some (st', hp')) (hdg : decode cc pc = .ok (I, 1)) (hR : aRel s0 D cl ad unk K hp H)
    (k : hp' = hp → W p l e R s m args below meth c H locs cells slots Q (F0 m (pc + 1) ls (aVs ad unk st'))) : W p l e R s m args below meth c H locs cells slots Q (F0 m pc ls (aVs ad unk st)) := by
  unfold aRd at h
  split at h
  · rename_i i q r
    split at h
    · rename_i k9 vs h0
      split at h
      · rename_i hk
        subst hk
        split at h
        · cases h
        · rename_i hi
          split at h
          · rename_i v hv
            cases h
            have hk8 : k9 < 8 := by omega
            obtain ⟨cell, g1, g2, g3, g4, g5⟩ := aArr_of hal hR h0 hk8
            have hin : ¬ (i < 0 ∨ cell.slots.size ≤ i.toNatClampNeg) := by
              rintro (a | a)
              · exact hi a
              · have := (List.getElem?_eq_some_iff.mp hv).1
                omega
            rcases hkI with ⟨rfl, rfl⟩ | ⟨rfl, rfl⟩ | ⟨rfl, rfl⟩ | ⟨rfl, rfl⟩ | ⟨rfl, rfl⟩ | ⟨rfl, rfl⟩
            · exact W.iald hx hb g1 g3 g2 hin (g5 _ _ hv) rfl rfl hdg (k rfl)
            · exact W.cald hx hb g1 g3 g2 hin (g5 _ _ hv) rfl rfl hdg (k rfl)
            · exact W.lald hx hb g1 g3 g2 hin (g5 _ _ hv) rfl rfl hdg (k rfl)
            · exact W.fald hx hb g1 g3 g2 hin (g5 _ _ hv) rfl rfl hdg (k rfl)
            · exact W.dald hx hb g1 g3 g2 hin (g5 _ _ hv) rfl rfl hdg (k rfl)
            · exact W.bald hx hb g1 g3 g2 hin (g5 _ _ hv) rfl rfl hdg (k rfl)
          · cases h
      · cases h
    · cases h
  · cases h
theorem a_setSlot {cell : Cell} {j n : Nat} {x : Value} {vs : List Value} {x0 : Value} (hz : vs.length ≤ cell.slots.size ∧ cell.slots.size.toInt32 = Int32.ofNat vs.length) (hv : ∀ (j : Nat) (v : Value), vs[j]? = some v → cell.slots[j]? = some (aV ad unk v)) (hj : j < vs.length) (hx0 : aV ad unk x0 = x) :
    ((vs.set j x0).length ≤ (cell.setSlot j x).slots.size ∧ (cell.setSlot j x).slots.size.toInt32 = Int32.ofNat (vs.set j x0).length) ∧ ∀ (i : Nat) (v : Value), (vs.set j x0)[i]? = some v → (cell.setSlot j x).slots[i]? = some (aV ad unk v) := by
  have e : (cell.setSlot j x).slots = cell.slots.setIfInBounds j x := rfl
  rw [e]
  refine ⟨by rw [List.length_set, Array.size_setIfInBounds]; exact hz, fun i v hi => ?_⟩
  by_cases hij : i = j
  · subst hij
    rw [List.getElem?_set_self hj] at hi
    cases hi
    rw [Array.getElem?_setIfInBounds, if_pos rfl, if_pos (by omega), hx0]
  · rw [List.getElem?_set_ne (Ne.symm hij)] at hi
    rw [Array.getElem?_setIfInBounds, if_neg (Ne.symm hij)]
    exact hv i v hi
theorem aWr_ok (hA : aAd ad K) (hx : p.tables.exec = Jvm.exec) (hb : c.code = cc) (hal : s0.vm.Alike s.vm) {hp hp' : aH} {st st' : List Value} {kd : Nat} {x xs : Value} {I : Instr}
    (hkI : (∃ y, kd = 0 ∧ I = .iastore ∧ x = .int y ∧ xs = .int y) ∨ (∃ y, kd = 2 ∧ I = .lastore ∧ x = .long y ∧ xs = .long y) ∨ (∃ y, kd = 3 ∧ I = .fastore ∧ x = .float y ∧ xs = .float y) ∨ (∃ y, kd = 4 ∧ I = .dastore ∧ x = .double y ∧ xs = .double y) ∨ (∃ y, kd = 1 ∧ I = .castore ∧ x = narrow .char (.int y) ∧ xs = .int y))
    (h : aWr kd K x st hp = some (st', hp')) (hdg : decode cc pc = .ok (I, 1)) (hR : aRel s0 D cl ad unk K hp H) (hlocs : ∀ q ∈ locs, ad K ≤ q.base)
    (k : ∀ (H' : Heap) (locs' : List Loc), aRel s0 D cl ad unk K hp' H' → (∀ q ∈ locs', ad K ≤ q.base) → hp'.length = hp.length → aSzs cl hp' = aSzs cl hp → W p l e R s m args below meth c H' locs' cells slots Q (F0 m (pc + 1) ls (aVs ad unk st'))) :
    W p l e R s m args below meth c H locs cells slots Q (F0 m pc ls (aVs ad unk (xs :: st))) := by
  unfold aWr at h
  split at h
  · rename_i i q r
    split at h
    · rename_i k9 vs h0
      split at h
      · rename_i hk
        obtain ⟨rfl, hKq, hi, hlt⟩ := hk
        cases h
        have hk8 : k9 < 8 := by omega
        obtain ⟨cell, g1, g2, g3, g4, g5⟩ := aArr_of hal hR h0 hk8
        obtain ⟨cell', g1', g2', g6, g7, g8⟩ := hR.2.2.2 q _ h0
        have ec : cell' = cell := Option.some.inj (g1'.symm.trans g1)
        subst ec
        have hin : ¬ (i < 0 ∨ cell'.slots.size ≤ i.toNatClampNeg) := by
          rintro (a | a)
          · exact hi a
          · omega
        have harr0 : s0.isArrayOf cell' (aTy k9) := by
          rcases g8 with ⟨-, z, -⟩ | ⟨i9, r9, e9, -⟩ | ⟨i9, r9, kC9, e9, -⟩
          · exact z
          · exfalso
            have e9 : k9 = 2 * i9 + 8 := e9
            omega
          · exfalso
            have e9 : k9 = 2 * i9 + 9 := e9
            omega
        have fin : ∀ (x0 : Value), aV ad unk x = x0 → ∀ H' : Heap, H'[ad q]? = some (cell'.setSlot i.toNatClampNeg x0) → H'.size = H.size → (∀ a, a ≠ ad q → H'[a]? = H[a]?) →
            W p l e R s m args below meth c H' (locs ++ [⟨ad q, i.toNatClampNeg⟩]) cells slots Q (F0 m (pc + 1) ls (aVs ad unk st')) := by
          intro x0 hx0 H' e1 e2 e3
          obtain ⟨y1, y2⟩ := a_setSlot (n := 0) g4 g5 hlt hx0
          refine k H' _ (hR.set hA h0 hKq ⟨_, e1, g2, g6, g7, Or.inl ⟨hk8, harr0, y1, y2⟩⟩ e2 e3) ?_ (by rw [List.length_set]) (aSzs_set cl _ _ _ _ h0 (by unfold aSz; rw [if_pos hk8, if_pos hk8]; exact List.length_set))
          intro a ha
          rcases List.mem_append.mp ha with ha | ha
          · exact hlocs a ha
          · rw [List.mem_singleton] at ha
            subst ha
            exact hA.ge hKq
        rcases hkI with ⟨y, rfl, rfl, rfl, rfl⟩ | ⟨y, rfl, rfl, rfl, rfl⟩ | ⟨y, rfl, rfl, rfl, rfl⟩ | ⟨y, rfl, rfl, rfl, rfl⟩ | ⟨y, rfl, rfl, rfl, rfl⟩
        · exact W.iast hx hb g1 g3 g2 hin rfl rfl hdg (fin _ rfl)
        · exact W.last hx hb g1 g3 g2 hin rfl rfl hdg (fin _ rfl)
        · exact W.fast hx hb g1 g3 g2 hin rfl rfl hdg (fin _ rfl)
        · exact W.dast hx hb g1 g3 g2 hin rfl rfl hdg (fin _ rfl)
        · exact W.cast hx hb g1 g3 g2 hin rfl rfl hdg (fin _ rfl)
      · cases h
    · cases h
  · cases h
theorem aNewA_ok (hA : aAd ad K) (hx : p.tables.exec = Jvm.exec) (hb : c.code = cc) (hal : s0.vm.Alike s.vm) {hp hp' : aH} {st st' : List Value} {kd : Nat} {t : ArrayType} (hk8 : kd < 8) (ht : newarray.typeOf t = aTy kd) (hc8 : componentBytes (aTy kd) ≤ 8)
    (h : aNewA kd st hp = some (st', hp')) (hdg : decode cc pc = .ok (.newarray t, 2)) (hR : aRel s0 D cl ad unk K hp H) (harr : (Jvm.Cond.arrayClass (newarray.typeOf t)).before args s = true)
    (hcells : cells + (hp'.length - hp.length) ≤ R.cells) (hslots : slots + (aSzs cl hp' - aSzs cl hp) ≤ R.slots)
    (k : ∀ (H' : Heap), aRel s0 D cl ad unk K hp' H' → W p l e R s m args below meth c H' locs (cells + (hp'.length - hp.length)) (slots + (aSzs cl hp' - aSzs cl hp)) Q (F0 m (pc + 2) ls (aVs ad unk st'))) :
    W p l e R s m args below meth c H locs cells slots Q (F0 m pc ls (aVs ad unk st)) := by
  unfold aNewA at h
  split at h
  · rename_i n r
    split at h
    · rename_i hn
      obtain ⟨hn, hN⟩ := hn
      cases h
      have e1 : (hp ++ [(kd, List.replicate n.toNatClampNeg (defaultValue (aTy kd)))]).length - hp.length = 1 := by rw [List.length_append]; simp
      have e2 : aSzs cl (hp ++ [(kd, List.replicate n.toNatClampNeg (defaultValue (aTy kd)))]) - aSzs cl hp = n.toNatClampNeg := by
        rw [aSzs_push]
        unfold aSz
        rw [if_pos hk8, List.length_replicate]
        omega
      rw [e1] at hcells k
      rw [e2] at hslots k
      have hby : n.toNatClampNeg * componentBytes (newarray.typeOf t) ≤ 536870912 := by
        rw [ht]
        have : n.toNatClampNeg * componentBytes (aTy kd) ≤ 60000 * 8 := Nat.mul_le_mul hN hc8
        omega
      have hdn : ∀ ty, aV ad unk (defaultValue ty) = defaultValue ty := fun ty => by cases ty <;> rfl
      refine va_newaK hx hb harr rfl hdg rfl hn rfl hby hcells hslots rfl fun H' cA g1 g2 g3 g4 g5 => ?_
      have he : aAt s0 D cl ad unk K hp.length (kd, List.replicate n.toNatClampNeg (defaultValue (aTy kd))) H' := by
        refine ⟨_, by rw [← hR.2.1]; exact g1, (fun z => by cases z), rfl, (fun _ => ⟨rfl, rfl⟩), Or.inl ⟨hk8, ?_, by rw [arrV_size, List.length_replicate]; exact ⟨Nat.le_refl _, rfl⟩, fun j v hj => ?_⟩⟩
        · have := g4 n.toNatClampNeg (fun _ => defaultValue (newarray.typeOf t))
          rw [ht] at this ⊢
          exact State.isArrayOf_alike hal.symm this
        · obtain ⟨hj1, hj2⟩ := List.getElem?_eq_some_iff.mp hj
          rw [List.length_replicate] at hj1
          rw [List.getElem_replicate] at hj2
          rw [arrV_read _ _ hj1, ← hj2, hdn, ht]
      have hfin := k H' (hR.push hA g2 g3 he)
      refine W.eq ?_ hfin
      show _ = _
      simp only [aVs, List.map_cons, aV, hR.2.1]
    · cases h
  · cases h
end AHEAP
end
section
section AHEAP3
variable {p : Program} {l : Launch} {e : Env} {R : Room} {s : State} {m : MethodId} {args : Array Value} {below : List Frame} {meth : Method} {c : Code} {H : Heap} {locs : List Loc} {cells slots : Nat} {Q : State → Prop}
variable {cc : ByteArray} {pc : Nat} {ls : Array Slot} {ad : Nat → Nat} {unk : Nat → Value} {own : MethodName} {s0 : State} {D : va_G} {cl : aCl} {K : Nat}
theorem aFit_ok {ty : FieldType} {v : Value} (h : aFit ty v = true) (hv : ∀ i, v ≠ .retAddr i) : narrow ty (aV ad unk v) = aV ad unk v ∧ fits ty (aV ad unk v) = true := by
  cases ty <;> cases v <;> simp_all [aFit, fits, aV, narrow]
  rename_i v
  rcases h with rfl | rfl <;> decide
theorem aObj_of {hp : aH} (hR : aRel s0 D cl ad unk K hp H) {q i : Nat} {vs : List Value} {r : vw_C × List FieldType} (h0 : hp[q]? = some (2 * i + 8, vs)) (hr : cl[i]? = some r) :
    ∃ cell : Cell, H[ad q]? = some cell ∧ cell.vm ≠ .unknown ∧ cell.vm.isStatics = false ∧ (K ≤ q → cell.vm = .none ∧ cell.monitor = {}) ∧ cell.cls = D.1 i ∧ ∀ (k : Nat) (v : Value), k < r.1.2.2 → vs[k]? = some v → cell.slots[D.2 i k]? = some (aV ad unk v) := by
  obtain ⟨cell, h1, h2, h3, h4, h5⟩ := hR.2.2.2 q _ h0
  rcases h5 with ⟨h6, -⟩ | ⟨j, r', e1, e2, e3, e4⟩ | ⟨j, r', kC, e1, -⟩
  · exfalso
    have h6 : 2 * i + 8 < 8 := h6
    omega
  · have hij : j = i := by have e1 : 2 * i + 8 = 2 * j + 8 := e1; omega
    subst hij
    cases hr.symm.trans e2
    exact ⟨cell, h1, h2, h3, h4, e3, e4⟩
  · exfalso
    have e1 : 2 * i + 8 = 2 * j + 9 := e1
    omega
set_option maxHeartbeats 4000000 in
theorem aGetf_ok (hx : p.tables.exec = Jvm.exec) (hb : c.code = cc) (hown : s.vm.findClass own.cls = some m.cls) (hcl : aClOK cl s) (hK : aK D cl s) {i : Nat} {lk : aLk} {hp hp' : aH} {st st' : List Value}
    (h : aHp cl K own (.getfield i) lk st hp = some (st', hp')) (hdg : decode cc pc = .ok (.getfield i, 3)) (hR : aRel s0 D cl ad unk K hp H) (hlk : aHk s0 cl ad unk K own (.getfield i) lk args s)
    (k : hp' = hp → W p l e R s m args below meth c H locs cells slots Q (F0 m (pc + 3) ls (aVs ad unk st'))) : W p l e R s m args below meth c H locs cells slots Q (F0 m pc ls (aVs ad unk st)) := by
  obtain ⟨r, hr, hkN, hlink⟩ := hlk
  simp only [aHp] at h
  split at h
  · rename_i q r0
    split at h
    · rename_i kd vs h0
      split at h
      · rename_i hkd
        subst hkd
        split at h
        · rename_i v hv
          cases h
          obtain ⟨cell, g1, g2, g3, g4, g5, g6⟩ := aObj_of hR h0 hr
          obtain ⟨hS, hfc, -⟩ := hK _ _ hr
          obtain ⟨cf, kf, fi, f, hi, hsl⟩ := hS _ hkN
          have hst := (hcl _ _ hr).1 _ hkN _ _ _ _ hi
          have hsv : cell.slots[f.slot]? = some (aV ad unk v) := by rw [hsl]; exact g6 _ _ hkN hv
          rcases hlink with hlink | ⟨host, hlink⟩
          · exact W.getf hx hb hown hlink hi hst g1 g2 hsv rfl rfl hdg (k rfl)
          · exact va_Wgetf hx hb hown hlink hi hst g1 g2 hsv rfl rfl hdg (k rfl)
        · cases h
      · cases h
    · cases h
  · cases h
set_option maxHeartbeats 4000000 in
theorem aPutf_ok (hA : aAd ad K) (hx : p.tables.exec = Jvm.exec) (hb : c.code = cc) (hown : s.vm.findClass own.cls = some m.cls) (hname : meth.name = own.name) (hcl : aClOK cl s) (hK : aK D cl s) {i : Nat} {lk : aLk} {hp hp' : aH} {st st' : List Value}
    (h : aHp cl K own (.putfield i) lk st hp = some (st', hp')) (hdg : decode cc pc = .ok (.putfield i, 3)) (hR : aRel s0 D cl ad unk K hp H) (hlk : aHk s0 cl ad unk K own (.putfield i) lk args s) (hlocs : ∀ q ∈ locs, ad K ≤ q.base)
    (k : ∀ (H' : Heap) (locs' : List Loc), aRel s0 D cl ad unk K hp' H' → (∀ q ∈ locs', ad K ≤ q.base) → hp'.length = hp.length → aSzs cl hp' = aSzs cl hp → W p l e R s m args below meth c H' locs' cells slots Q (F0 m (pc + 3) ls (aVs ad unk st'))) : W p l e R s m args below meth c H locs cells slots Q (F0 m pc ls (aVs ad unk st)) := by
  obtain ⟨r, hr, hkN, hown', hlink⟩ := hlk
  simp only [aHp] at h
  split at h
  · rename_i v q r0
    split at h
    · rename_i o c0 kd vs cc0 h0 hc0
      cases hr.symm.trans hc0
      split at h
      · rename_i hkd
        obtain ⟨hkd, hKq, hlt⟩ := hkd
        subst hkd
        split at h
        · rename_i ty hty
          split at h
          · rename_i hfit
            cases h
            obtain ⟨cell, g1, g2, g3, g4, g5, g6⟩ := aObj_of hR h0 hr
            have hvm := (g4 hKq).1
            obtain ⟨-, c2, c3, c4, c1⟩ := hcl _ _ hr
            have c1 := c1 hown'
            obtain ⟨hS, hfc, kC, hkC, hkind⟩ := hK.u hr hown'
            obtain ⟨cf, kf, fi, f, hi, hsl⟩ := hS _ hkN
            have hts : ∀ w ∈ u_ws r.1.1 r.1.2.1 r.1.2.2, w.before args s = true := fun w hw => c1 w hw args
            have hst := (u_facts hfc hkC (u_lays hts (fun w hw => hw) hkN) hi).1
            have hnr : ∀ j, v ≠ .retAddr j := by
              rintro j rfl
              cases ty <;> simp [aFit, fits] at hfit
            obtain ⟨n1, n2⟩ := aFit_ok (ad := ad) (unk := unk) hfit hnr
            have hd := c3 _ _ hty
            have hlay := hts _ (u_in_lay hkN)
            obtain ⟨v0, hv0⟩ : ∃ v0, vs[lk.2.1]? = some v0 := ⟨_, List.getElem?_eq_getElem hlt⟩
            have hsz : f.slot < cell.slots.size := by rw [hsl]; exact k2_hasslot (g6 _ _ hkN hv0)
            have hap : ∀ a b, a < r.1.2.2 → b < r.1.2.2 → a ≠ b → D.2 lk.1 a ≠ D.2 lk.1 b := by
              intro x y hx hy hne
              obtain ⟨_, _, _, fa, hia, ea⟩ := hS x hx
              obtain ⟨_, _, _, fb, hib, eb⟩ := hS y hy
              rw [← ea, ← eb]
              refine u_apart (u_lays hts (fun w hw => hw) hx) (u_lays hts (fun w hw => hw) hy) hia hib ?_
              have tx : ∃ t, r.2[x]? = some t := ⟨_, List.getElem?_eq_getElem (by omega)⟩
              have ty2 : ∃ t, r.2[y]? = some t := ⟨_, List.getElem?_eq_getElem (by omega)⟩
              obtain ⟨t1, tx⟩ := tx
              obtain ⟨t2, ty2⟩ := ty2
              rw [(State.fieldFound?_type hia (c3 _ _ tx)).1, (State.fieldFound?_type hib (c3 _ _ ty2)).1]
              exact c4 x hx y hy hne
            have fin : ∀ H' : Heap, H'[ad q]? = some (cell.setSlot f.slot (aV ad unk v)) → H'.size = H.size → (∀ a, a ≠ ad q → H'[a]? = H[a]?) →
                W p l e R s m args below meth c H' (locs ++ [⟨ad q, f.slot⟩]) cells slots Q (F0 m (pc + 3) ls (aVs ad unk st')) := by
              intro H' e1 e2 e3
              refine k H' _ (hR.set hA h0 hKq ⟨_, e1, g2, g3, g4, Or.inr (Or.inl ⟨lk.1, r, rfl, hr, g5, fun j w hj hw => ?_⟩)⟩ e2 e3) ?_ (by rw [List.length_set]) (aSzs_set cl _ _ _ _ h0 (by unfold aSz; rw [if_neg (by omega), if_neg (by omega)]))
              · show (cell.slots.setIfInBounds f.slot (aV ad unk v))[D.2 lk.1 j]? = _
                by_cases hjk : j = lk.2.1
                · subst hjk
                  rw [List.getElem?_set_self hlt] at hw
                  cases hw
                  rw [hsl, Array.getElem?_setIfInBounds, if_pos rfl, if_pos (by rw [← hsl]; exact hsz)]
                · rw [List.getElem?_set_ne (Ne.symm hjk)] at hw
                  rw [hsl, Array.getElem?_setIfInBounds, if_neg (hap _ _ hkN hj (Ne.symm hjk))]
                  exact g6 _ _ hj hw
              · intro a ha
                rcases List.mem_append.mp ha with ha | ha
                · exact hlocs a ha
                · rw [List.mem_singleton] at ha
                  subst ha
                  exact hA.ge hKq
            rcases hlink with ⟨hlink, hfin⟩ | ⟨hlink, hfin, hdecl, hin2⟩
            · unfold u_lay at hlay
              rw [if_neg (by rw [hfin]; decide)] at hlay
              have h6 := u_store hfc hkC hkind hlay hi hd n1 n2
              rcases hlink with hlink | ⟨host, hlink⟩
              · exact W.putK hx hb (f := f) ⟨hown, hlink, ⟨_, _, _, hi⟩, hst⟩ (by rw [g5]; exact h6) g1 hvm hsz rfl rfl hdg fin
              · exact va_WputK hx hb (f := f) hown hlink hi hst (by rw [g5]; exact h6) g1 hvm hsz rfl rfl hdg fin
            · unfold u_lay at hlay
              rw [if_pos hfin] at hlay
              have hcf : m.cls = cf := by
                obtain ⟨_, _, c', _, _, _, -, -, hf', -, -, -, hown2, -⟩ := Cond.laysFinal_spec hlay
                have e1 : c' = cf := by have := hi.symm.trans hf'; simp at this; exact this.1.symm
                rw [hdecl] at hown2
                rw [← e1]; exact Option.some.inj (hown.symm.trans hown2)
              have h6 := u_fits hfc hkC hkind (Or.inr hlay) hi hd n1 n2
              exact W.putFinK hx hb hown hlink hi hst hcf (hname.trans hin2) (by rw [g5]; exact h6) g1 hvm hsz rfl rfl hdg fin
          · cases h
        · cases h
      · cases h
    · cases h
  · cases h
set_option maxHeartbeats 4000000 in
theorem aNew_ok (hA : aAd ad K) (hx : p.tables.exec = Jvm.exec) (hb : c.code = cc) (hWs : s0.WarmedH s.vm) (hown : s.vm.findClass own.cls = some m.cls) (hcl : aClOK cl s) (hK : aK D cl s) {i : Nat} {lk : aLk} {hp hp' : aH} {st st' : List Value}
    (h : aHp cl K own (.new i) lk st hp = some (st', hp')) (hdg : decode cc pc = .ok (.new i, 3)) (hR : aRel s0 D cl ad unk K hp H) (hlk : aHk s0 cl ad unk K own (.new i) lk args s)
    (hcells : cells + (hp'.length - hp.length) ≤ R.cells) (hslots : slots + (aSzs cl hp' - aSzs cl hp) ≤ R.slots)
    (k : ∀ (H' : Heap), aRel s0 D cl ad unk K hp' H' → W p l e R s m args below meth c H' locs (cells + (hp'.length - hp.length)) (slots + (aSzs cl hp' - aSzs cl hp)) Q (F0 m (pc + 3) ls (aVs ad unk st'))) :
    W p l e R s m args below meth c H locs cells slots Q (F0 m pc ls (aVs ad unk st)) := by
  obtain ⟨r, hr, hown', h1, h2, h3⟩ := hlk
  obtain ⟨-, c2, c3, c4, c1⟩ := hcl _ _ hr
  have c1 := c1 hown'
  have hKn := hK.u hr hown'
  have hts : ∀ w ∈ u_ws r.1.1 r.1.2.1 r.1.2.2, w.before args s = true := fun w hw => c1 w hw args
  simp only [aHp] at h
  rw [hr] at h
  dsimp only at h
  split at h
  · cases h
    have e1 : (hp ++ [(2 * lk.1 + 8, r.2.map defaultValue)]).length - hp.length = 1 := by rw [List.length_append]; simp
    have e2 : aSzs cl (hp ++ [(2 * lk.1 + 8, r.2.map defaultValue)]) - aSzs cl hp = r.1.2.2 := by
      rw [aSzs_push]
      unfold aSz
      rw [if_neg (by omega), show (2 * lk.1 + 8 - 8) / 2 = lk.1 by omega, hr]
      show aSzs cl hp + r.1.2.2 - aSzs cl hp = r.1.2.2
      omega
    rw [e1] at hcells k
    rw [e2] at hslots k
    refine W.newcK hx hb hown h1 h2 h3 rfl hdg hcells hslots hKn.2.1 rfl fun H1 kC hkC g1 g2 g3 => ?_
    have hdn : ∀ ty, aV ad unk (defaultValue ty) = defaultValue ty := fun ty => by cases ty <;> rfl
    have hty : ∀ k, k < r.1.2.2 → parseFieldDescriptor (r.1.2.1 k).2.2.1 = some (r.2.getD k .int) := by
      intro k hk
      refine c3 k _ ?_
      rw [List.getD_eq_getElem?_getD, List.getElem?_eq_getElem (by omega)]
      rfl
    obtain ⟨cell, b1, b2, b3, b4⟩ := u_born (fun k => r.2.getD k .int) hts (fun w hw => hw) hKn hkC g1 hty
    have he : aAt s0 D cl ad unk K hp.length (2 * lk.1 + 8, r.2.map defaultValue) H1 := by
      have eb : cell = blank (D.1 lk.1) kC := Option.some.inj (b1.symm.trans g1)
      refine ⟨cell, by rw [← hR.2.1]; exact b1, by rw [b3]; exact (fun z => by cases z), by rw [b3]; rfl, (fun _ => ⟨b3, by rw [eb]; rfl⟩), Or.inr (Or.inl ⟨lk.1, r, rfl, hr, b2, fun j v hj hv => ?_⟩)⟩
      rw [b4 j hj]
      have hv : (r.2.map defaultValue)[j]? = some v := hv
      rw [List.getElem?_map] at hv
      obtain ⟨t, ht, rfl⟩ := Option.map_eq_some_iff.mp hv
      show some (defaultValue (r.2.getD j FieldType.int)) = _
      rw [List.getD_eq_getElem?_getD, ht, hdn]
      rfl
    refine W.eq ?_ (k H1 (hR.push hA g2 g3 he))
    simp only [aVs, List.map_cons, aV, hR.2.1]
  · cases h
    have e1 : (hp ++ [(2 * lk.1 + 9, ([] : List Value))]).length - hp.length = 1 := by rw [List.length_append]; simp
    have e2 : aSzs cl (hp ++ [(2 * lk.1 + 9, ([] : List Value))]) - aSzs cl hp = r.1.2.2 := by
      rw [aSzs_push]
      unfold aSz
      rw [if_neg (by omega), show (2 * lk.1 + 9 - 8) / 2 = lk.1 by omega, hr]
      show aSzs cl hp + r.1.2.2 - aSzs cl hp = r.1.2.2
      omega
    rw [e1] at hcells k
    rw [e2] at hslots k
    refine W.newcK hx hb hown h1 h2 h3 rfl hdg hcells hslots hKn.2.1 rfl fun H1 kC hkC g1 g2 g3 => ?_
    have he : aAt s0 D cl ad unk K hp.length (2 * lk.1 + 9, []) H1 := by
      refine ⟨blank (D.1 lk.1) kC, by rw [← hR.2.1]; exact g1, (fun z => by cases z), rfl, (fun _ => ⟨rfl, rfl⟩), Or.inr (Or.inr ⟨lk.1, r, kC, rfl, hr, Vm.Alike.refl _, fun U hU => ?_, rfl⟩)⟩
      obtain ⟨kC', hk', he'⟩ := (hWs.alike.symm.trans hU.alike).2.2 _ _ hkC
      exact ⟨kC', hk', by rw [he']; rfl⟩
    refine W.eq ?_ (k H1 (hR.push hA g2 g3 he))
    simp only [aVs, List.map_cons, aV, hR.2.1]
theorem aGets_ok (hW : s0.vm.Alike s.vm) (hx : p.tables.exec = Jvm.exec) (hb : c.code = cc) (hown : s.vm.findClass own.cls = some m.cls) {i : Nat} {lk : aLk} {hp : aH} {st : List Value} (hsz : s0.heap.size = ad K)
    (hdg : decode cc pc = .ok (.getstatic i, 3)) (hR : aRel s0 D cl ad unk K hp H) (hlk : aHk s0 cl ad unk K own (.getstatic i) lk args s)
    (k : W p l e R s m args below meth c H locs cells slots Q (F0 m (pc + 3) ls (aVs ad unk (lk.2.2.2 :: st)))) : W p l e R s m args below meth c H locs cells slots Q (F0 m pc ls (aVs ad unk st)) := by
  obtain ⟨C, n, d, hlink, hZ⟩ := hlk
  obtain ⟨cf, kf, fi, f, a, cell, h1, h2, h3, h4, h5, h6, h7, h8⟩ := va_Z.moved hW hZ
  have hlt : a < ad K := by rw [← hsz]; exact (Array.getElem?_eq_some_iff.mp h5).1
  have hc : H[a]? = some cell := by rw [hR.2.2.1 a hlt]; exact h5
  have hu : cell.vm ≠ .unknown := fun z => by rw [z] at h6; cases h6
  rcases hlink with hlink | ⟨host, hlink⟩
  · exact W.gets hx hb hown hlink h1 h2 h3 h4 hc hu h7 rfl hdg k
  · exact va_WgetsN hx hb hown hlink h1 h2 h3 h4 hc hu h7 rfl hdg k
end AHEAP3
end
section
theorem aSz_le {cl : aCl} {h : aH} {p k : Nat} {vs : List Value} {j : Nat} {v : Value} (h0 : h[p]? = some (k, vs)) : aSzs cl (h.set p (k, vs.set j v)) = aSzs cl h :=
  aSzs_set cl _ _ _ _ h0 (by unfold aSz; simp only [List.length_set])
theorem aRd_mono {cl : aCl} {kd : Nat} {st st' : List Value} {h h' : aH} (e : aRd kd st h = some (st', h')) : h.length ≤ h'.length ∧ aSzs cl h ≤ aSzs cl h' := by
  unfold aRd at e
  split at e
  · split at e
    · split at e
      · split at e
        · cases e
        · split at e
          · cases e; exact ⟨Nat.le_refl _, Nat.le_refl _⟩
          · cases e
      · cases e
    · cases e
  · cases e
theorem aWr_mono {cl : aCl} {kd K : Nat} {x : Value} {st st' : List Value} {h h' : aH} (e : aWr kd K x st h = some (st', h')) : h.length ≤ h'.length ∧ aSzs cl h ≤ aSzs cl h' := by
  unfold aWr at e
  split at e
  · split at e
    · rename_i h0
      split at e
      · cases e
        exact ⟨by simp, by rw [aSz_le h0]; exact Nat.le_refl _⟩
      · cases e
    · cases e
  · cases e
theorem aNewA_mono {cl : aCl} {kd : Nat} {st st' : List Value} {h h' : aH} (e : aNewA kd st h = some (st', h')) : h.length ≤ h'.length ∧ aSzs cl h ≤ aSzs cl h' := by
  unfold aNewA at e
  split at e
  · split at e
    · cases e
      exact ⟨by simp, by rw [aSzs_push]; omega⟩
    · cases e
  · cases e
set_option maxHeartbeats 4000000 in
theorem aHp_mono {cl : aCl} {K : Nat} {own : MethodName} {I : Instr} {lk : aLk} {st st' : List Value} {h h' : aH} (e : aHp cl K own I lk st h = some (st', h')) : h.length ≤ h'.length ∧ aSzs cl h ≤ aSzs cl h' := by
  cases I with
  | getfield i =>
    simp only [aHp] at e
    split at e
    · split at e
      · split at e
        · split at e
          · cases e; exact ⟨Nat.le_refl _, Nat.le_refl _⟩
          · cases e
        · cases e
      · cases e
    · cases e
  | putfield i =>
    simp only [aHp] at e
    split at e
    · split at e
      · rename_i h0 _
        split at e
        · split at e
          · split at e
            · cases e
              exact ⟨by simp, by rw [aSz_le h0]; exact Nat.le_refl _⟩
            · cases e
          · cases e
        · cases e
      · cases e
    · cases e
  | iaload => exact aRd_mono e
  | caload => exact aRd_mono e
  | laload => exact aRd_mono e
  | faload => exact aRd_mono e
  | daload => exact aRd_mono e
  | baload => exact aRd_mono e
  | iastore => simp only [aHp] at e; split at e; exact aWr_mono e; cases e
  | castore => simp only [aHp] at e; split at e; exact aWr_mono e; cases e
  | lastore => simp only [aHp] at e; split at e; exact aWr_mono e; cases e
  | fastore => simp only [aHp] at e; split at e; exact aWr_mono e; cases e
  | dastore => simp only [aHp] at e; split at e; exact aWr_mono e; cases e
  | arraylength =>
    simp only [aHp] at e
    split at e
    · split at e
      · split at e
        · cases e; exact ⟨Nat.le_refl _, Nat.le_refl _⟩
        · cases e
      · cases e
    · cases e
  | newarray t => cases t <;> first | exact aNewA_mono e | (simp [aHp] at e)
  | new i =>
    simp only [aHp] at e
    split at e
    · split at e
      · cases e
        exact ⟨by simp, by rw [aSzs_push]; omega⟩
      · cases e
        exact ⟨by simp, by rw [aSzs_push]; omega⟩
    · cases e
  | getstatic i => simp only [aHp] at e; cases e; exact ⟨Nat.le_refl _, Nat.le_refl _⟩
  | _ => simp [aHp] at e
theorem aStep_mono {cl : aCl} {K : Nat} {M : aMt} {I : Instr} {lk : aLk} {pc : Nat} {ls : aLc} {st : List Value} {h : aH} {r : aRes} (e : aStep cl K M I lk pc ls st h = some r) :
    (∀ pc' ls' st' h', r = .inl (pc', ls', st', h') → h.length ≤ h'.length ∧ aSzs cl h ≤ aSzs cl h') ∧ ∀ o h', r = .inr (.inl (o, h')) → h'.length = h.length ∧ aSzs cl h' = aSzs cl h := by
  unfold aStep at e
  split at e
  · cases e
    exact ⟨fun _ _ _ _ z => by cases z; exact ⟨Nat.le_refl _, Nat.le_refl _⟩, fun _ _ z => by cases z⟩
  split at e
  · cases e
    exact ⟨fun _ _ _ _ z => by cases z; exact ⟨Nat.le_refl _, Nat.le_refl _⟩, fun _ _ z => by cases z⟩
  split at e
  · cases e
    exact ⟨fun _ _ _ _ z => by cases z; exact ⟨Nat.le_refl _, Nat.le_refl _⟩, fun _ _ z => by cases z⟩
  split at e
  · rename_i hh
    cases e
    exact ⟨fun _ _ _ _ z => by cases z; exact aHp_mono hh, fun _ _ z => by cases z⟩
  split at e
  · cases e
    exact ⟨fun _ _ _ _ z => (by cases z), fun _ _ z => by cases z; exact ⟨rfl, rfl⟩⟩
  split at e
  · split at e <;> cases e
    exact ⟨fun _ _ _ _ z => (by cases z), fun _ _ z => (by cases z)⟩
  · split at e
    · split at e
      · split at e <;> cases e
        exact ⟨fun _ _ _ _ z => (by cases z), fun _ _ z => (by cases z)⟩
      · cases e
    · cases e
  · split at e
    · split at e
      · split at e <;> cases e
        exact ⟨fun _ _ _ _ z => by cases z; exact ⟨Nat.le_refl _, Nat.le_refl _⟩, fun _ _ z => by cases z⟩
      · split at e
        · split at e
          · rename_i h0
            split at e
            · rename_i hc
              cases e
              refine ⟨fun _ _ _ _ z => ?_, fun _ _ z => (by cases z)⟩
              cases z
              refine ⟨by rw [List.length_set]; exact Nat.le_refl _, Nat.le_of_eq (aSzs_set cl _ _ _ _ h0 ?_).symm⟩
              obtain ⟨hc, -⟩ := hc
              rw [hc]
              unfold aSz
              rw [if_neg (by omega), if_neg (by omega)]
              congr 2
              omega
            · cases e
          · cases e
        · cases e
    · split at e <;> cases e
      exact ⟨fun _ _ _ _ z => (by cases z), fun _ _ z => (by cases z)⟩
    · cases e
  · split at e
    · split at e <;> cases e
      exact ⟨fun _ _ _ _ z => (by cases z), fun _ _ z => by cases z; exact ⟨rfl, rfl⟩⟩
    · cases e
  · cases e
theorem aRun_mono {cl : aCl} {K : Nat} {P : List aMt} : ∀ (n : Nat) (M : aMt) (d pc : Nat) (ls : aLc) (st : List Value) (h : aH) (res : aOut × aH), aRun cl K P n M d pc ls st h = some res → h.length ≤ res.2.length ∧ aSzs cl h ≤ aSzs cl res.2
  | 0, _, _, _, _, _, _, _, e => by simp [aRun] at e
  | n + 1, M, d, pc, ls, st, h, res, e => by
    unfold aRun at e
    split at e
    · cases e
    split at e
    · cases e
    · rename_i hs
      have h1 := (aStep_mono hs).1 _ _ _ _ rfl
      have h2 := aRun_mono n _ _ _ _ _ _ _ e
      omega
    · rename_i hs
      cases e
      rename_i r
      have h1 := (aStep_mono hs).2 res.1 res.2 rfl
      omega
    · split at e
      · split at e
        · split at e
          · cases e
          · rename_i hr
            have h1 := aRun_mono n _ _ _ _ _ _ _ hr
            have h2 := aRun_mono n _ _ _ _ _ _ _ e
            simp only at h1
            omega
          · rename_i hr
            have h1 := aRun_mono n _ _ _ _ _ _ _ hr
            simp only at h1
            split at e
            · cases e
              exact h1
            · split at e
              · split at e
                · have h2 := aRun_mono n _ _ _ _ _ _ _ e
                  omega
                · cases e
              · cases e
        · cases e
      · cases e
/-- the end of a method: what it answers, and the list of objects behind it -/
def aEnd (below : List Frame) (s s0 : State) (D : va_G) (cl : aCl) (ad : Nat → Nat) (unk : Nat → Value) (K cells slots : Nat) (res : aOut × aH) : State → Prop := fun t =>
  ∃ (o : Outcome) (L : List Loc), t.status = .running ∧ Ended t below o ∧ s.WarmedH t.vm ∧ s.sameButNew ({ t with vm := s.vm } : State) L cells slots ∧ (∀ q ∈ L, ad K ≤ q.base) ∧ aRel s0 D cl ad unk K res.2 t.heap ∧
    o = (match res.1 with | .inl v => .returned (v.map (aV ad unk)) | .inr q => .threw (ad q))
section ARET
variable {p : Program} {l : Launch} {e : Env} {R : Room} {s : State} {m : MethodId} {args : Array Value} {below : List Frame} {meth : Method} {c : Code} {H : Heap} {locs : List Loc} {cells slots : Nat} {Q : State → Prop}
variable {cc : ByteArray} {pc : Nat} {ls : Array Slot} {ad : Nat → Nat} {unk : Nat → Value} {own : MethodName} {s0 : State} {D : va_G} {cl : aCl} {K : Nat}
theorem aW_mono {Q' : State → Prop} {g : JFrame} (h : ∀ t, Q t → Q' t) (k : W p l e R s m args below meth c H locs cells slots Q g) : W p l e R s m args below meth c H locs cells slots Q' g := by
  intro T hT X
  obtain ⟨t, a, b⟩ := k T hT X
  exact ⟨t, a, h t b⟩
set_option maxHeartbeats 4000000 in
theorem aRet_ok (hx : p.tables.exec = Jvm.exec) (hb : c.code = cc) (hlk : meth.locks = false) {I : Instr} {rt : Option FieldType} (hr : meth.sig.returnType = rt) {hp : aH} {st : List Value} {v : Option Value}
    (h : aRet I rt st = some v) (hdg : decode cc pc = .ok (I, 1)) (hR : aRel s0 D cl ad unk K hp H) (hlocs : ∀ q ∈ locs, ad K ≤ q.base) :
    W p l e R s m args below meth c H locs cells slots (aEnd below s s0 D cl ad unk K cells slots (.inl v, hp)) (F0 m pc ls (aVs ad unk st)) := by
  have key : ∀ t, MQ below (fun _ _ o t => o = .returned (v.map (aV ad unk)) ∧ aRel s0 D cl ad unk K hp t.heap) args s cells slots (fun a => ad K ≤ a) t → aEnd below s s0 D cl ad unk K cells slots (.inl v, hp) t := by
    rintro t ⟨o, h1, h2, ⟨h3, h4⟩, L, ⟨-, h6, h7⟩, h8⟩
    exact ⟨o, L, h1, h2, h6, h7, h8, h4, h3⟩
  refine aW_mono key ?_
  have hq : ∀ (w : Option Value), w = v.map (aV ad unk) → ∀ t : State, t.heap = H → s.WarmedH t.vm → ((Outcome.returned w = .returned (v.map (aV ad unk))) ∧ aRel s0 D cl ad unk K hp t.heap) := by
    intro w hw t ht _
    exact ⟨by rw [hw], by rw [ht]; exact hR⟩
  cases I with
  | return_ =>
    simp only [aRet] at h
    split at h
    · cases h
      exact W.vret hx hb hr (hq none rfl) hlocs hdg hlk
    · cases h
  | ireturn =>
    simp only [aRet] at h
    split at h
    · cases h
      exact W.iret hx hb hr (hq _ rfl) hlocs hdg hlk
    · split at h
      · rename_i hv
        cases h
        exact W.zret hx hb hr (by rcases hv with rfl | rfl <;> decide) (hq _ rfl) hlocs hdg hlk
      · cases h
    · split at h
      · rename_i hv
        cases h
        exact W.zret hx hb hr hv (hq _ rfl) hlocs hdg hlk
      · cases h
    · split at h
      · rename_i hv
        cases h
        exact W.zret hx hb hr hv (hq _ rfl) hlocs hdg hlk
      · cases h
    · cases h
  | lreturn =>
    simp only [aRet] at h
    split at h
    · cases h
      exact W.lret hx hb hr (hq _ rfl) hlocs hdg hlk
    · cases h
  | freturn =>
    simp only [aRet] at h
    split at h
    · cases h
      exact W.fret hx hb hr (hq _ rfl) hlocs hdg hlk
    · cases h
  | areturn =>
    simp only [aRet] at h
    split at h
    · cases h
      exact W.aret hx hb hr (Or.inl ⟨_, rfl⟩) (Or.inr ⟨_, rfl⟩) (hq _ rfl) hlocs hdg hlk
    · cases h
      exact W.aret hx hb hr (Or.inl ⟨_, rfl⟩) (Or.inl rfl) (hq _ rfl) hlocs hdg hlk
    · cases h
  | _ => simp [aRet] at h
end ARET
end
section
section AHPALL
variable {p : Program} {l : Launch} {e : Env} {R : Room} {s : State} {m : MethodId} {args : Array Value} {below : List Frame} {meth : Method} {c : Code} {H : Heap} {locs : List Loc} {cells slots : Nat} {Q : State → Prop}
variable {cc : ByteArray} {pc : Nat} {ls : Array Slot} {ad : Nat → Nat} {unk : Nat → Value} {own : MethodName} {s0 : State} {D : va_G} {cl : aCl} {K : Nat}
set_option maxHeartbeats 4000000 in
theorem aHp_ok (hA : aAd ad K) (hx : p.tables.exec = Jvm.exec) (hb : c.code = cc) (hWs : s0.WarmedH s.vm) (hown : s.vm.findClass own.cls = some m.cls) (hname : meth.name = own.name) (hcl : aClOK cl s) (hK : aK D cl s) (hsz : s0.heap.size = ad K)
    {I : Instr} {lk : aLk} {hp hp' : aH} {st st' : List Value} (h : aHp cl K own I lk st hp = some (st', hp')) (hdg : decode cc pc = .ok (I, aLen I)) (hR : aRel s0 D cl ad unk K hp H) (hlk : aHk s0 cl ad unk K own I lk args s) (hlocs : ∀ q ∈ locs, ad K ≤ q.base)
    (hcells : cells + (hp'.length - hp.length) ≤ R.cells) (hslots : slots + (aSzs cl hp' - aSzs cl hp) ≤ R.slots)
    (k : ∀ (H' : Heap) (locs' : List Loc), aRel s0 D cl ad unk K hp' H' → (∀ q ∈ locs', ad K ≤ q.base) → W p l e R s m args below meth c H' locs' (cells + (hp'.length - hp.length)) (slots + (aSzs cl hp' - aSzs cl hp)) Q (F0 m (pc + aLen I) ls (aVs ad unk st'))) :
    W p l e R s m args below meth c H locs cells slots Q (F0 m pc ls (aVs ad unk st)) := by
  have hal : s0.vm.Alike s.vm := hWs.alike
  have k0 : hp' = hp → W p l e R s m args below meth c H locs cells slots Q (F0 m (pc + aLen I) ls (aVs ad unk st')) := by
    intro e0
    subst e0
    have := k H locs hR hlocs
    rw [Nat.sub_self, Nat.sub_self] at this
    exact this
  have k1 : ∀ (H' : Heap) (locs' : List Loc), aRel s0 D cl ad unk K hp' H' → (∀ q ∈ locs', ad K ≤ q.base) → hp'.length = hp.length → aSzs cl hp' = aSzs cl hp → W p l e R s m args below meth c H' locs' cells slots Q (F0 m (pc + aLen I) ls (aVs ad unk st')) := by
    intro H' locs' a1 a2 a3 a4
    have := k H' locs' a1 a2
    rw [a3, a4, Nat.sub_self, Nat.sub_self] at this
    exact this
  cases I with
  | getfield i => exact aGetf_ok hx hb hown hcl hK h hdg hR hlk k0
  | putfield i => exact aPutf_ok hA hx hb hown hname hcl hK h hdg hR hlk hlocs k1
  | iaload => exact aRd_ok hx hb hal (Or.inl ⟨rfl, rfl⟩) h hdg hR k0
  | caload => exact aRd_ok hx hb hal (Or.inr (Or.inl ⟨rfl, rfl⟩)) h hdg hR k0
  | laload => exact aRd_ok hx hb hal (Or.inr (Or.inr (Or.inl ⟨rfl, rfl⟩))) h hdg hR k0
  | faload => exact aRd_ok hx hb hal (Or.inr (Or.inr (Or.inr (Or.inl ⟨rfl, rfl⟩)))) h hdg hR k0
  | daload => exact aRd_ok hx hb hal (Or.inr (Or.inr (Or.inr (Or.inr (Or.inl ⟨rfl, rfl⟩))))) h hdg hR k0
  | baload => exact aRd_ok hx hb hal (Or.inr (Or.inr (Or.inr (Or.inr (Or.inr ⟨rfl, rfl⟩))))) h hdg hR k0
  | iastore =>
    simp only [aHp] at h
    split at h
    · exact aWr_ok hA hx hb hal (Or.inl ⟨_, rfl, rfl, rfl, rfl⟩) h hdg hR hlocs k1
    · cases h
  | lastore =>
    simp only [aHp] at h
    split at h
    · exact aWr_ok hA hx hb hal (Or.inr (Or.inl ⟨_, rfl, rfl, rfl, rfl⟩)) h hdg hR hlocs k1
    · cases h
  | fastore =>
    simp only [aHp] at h
    split at h
    · exact aWr_ok hA hx hb hal (Or.inr (Or.inr (Or.inl ⟨_, rfl, rfl, rfl, rfl⟩))) h hdg hR hlocs k1
    · cases h
  | dastore =>
    simp only [aHp] at h
    split at h
    · exact aWr_ok hA hx hb hal (Or.inr (Or.inr (Or.inr (Or.inl ⟨_, rfl, rfl, rfl, rfl⟩)))) h hdg hR hlocs k1
    · cases h
  | castore =>
    simp only [aHp] at h
    split at h
    · exact aWr_ok hA hx hb hal (Or.inr (Or.inr (Or.inr (Or.inr ⟨_, rfl, rfl, rfl, rfl⟩)))) h hdg hR hlocs k1
    · cases h
  | arraylength =>
    simp only [aHp] at h
    split at h
    · split at h
      · rename_i h0
        split at h
        · rename_i hk
          cases h
          obtain ⟨cell, g1, g2, g3, g4, g5⟩ := aArr_of hal hR h0 (by omega)
          exact W.alen hx hb g1 g3 g4.2 rfl rfl hdg (k0 rfl)
        · cases h
      · cases h
    · cases h
  | newarray t =>
    cases t with
    | int => exact aNewA_ok hA hx hb hal (by decide) rfl (by decide) h hdg hR hlk hcells hslots (fun H' a => k H' locs a hlocs)
    | char => exact aNewA_ok hA hx hb hal (by decide) rfl (by decide) h hdg hR hlk hcells hslots (fun H' a => k H' locs a hlocs)
    | long => exact aNewA_ok hA hx hb hal (by decide) rfl (by decide) h hdg hR hlk hcells hslots (fun H' a => k H' locs a hlocs)
    | float => exact aNewA_ok hA hx hb hal (by decide) rfl (by decide) h hdg hR hlk hcells hslots (fun H' a => k H' locs a hlocs)
    | double => exact aNewA_ok hA hx hb hal (by decide) rfl (by decide) h hdg hR hlk hcells hslots (fun H' a => k H' locs a hlocs)
    | _ => simp [aHp] at h
  | new i => exact aNew_ok hA hx hb hWs hown hcl hK h hdg hR hlk hcells hslots (fun H' a => k H' locs a hlocs)
  | getstatic i =>
    simp only [aHp] at h
    cases h
    exact aGets_ok hal hx hb hown hsz hdg hR hlk (k0 rfl)
  | _ => simp [aHp] at h
end AHPALL
/-! calls -/
theorem aArgs_ok : ∀ (n : Nat) {st as r : List Value}, aArgs n st = some (as, r) → as.length = n ∧ st = as.reverse ++ r
  | 0, st, as, r, h => by
    simp only [aArgs] at h
    cases h
    exact ⟨rfl, rfl⟩
  | n + 1, [], as, r, h => by simp [aArgs] at h
  | n + 1, v :: st, as, r, h => by
    simp only [aArgs] at h
    split at h
    · rename_i as' r' e
      cases h
      obtain ⟨h1, h2⟩ := aArgs_ok n e
      exact ⟨by simp [h1], by rw [List.reverse_append, h2]; rfl⟩
    · cases h
def aSig (y : MethodName) (n : Nat) : Prop := y.cls ≠ "java/lang/invoke/MethodHandle" ∧ y.cls ≠ "java/lang/invoke/VarHandle" ∧ (parseMethodDescriptor y.desc).map (fun d => d.parameters.length) = some n
/-- a method as it stands in the tables of a state -/
def aMeth (U : State) (M : aMt) : Prop := plainName M.nm.cls = true ∧ ∃ (mk : MethodId) (methk : Method) (ck : Code), U.methodNamed? M.nm = some mk ∧ U.vm.method? mk = some methk ∧ methk.code = some ck ∧ ck.code = M.by ∧ ck.maxLocals = M.nl ∧ methk.sig.returnType = M.rt ∧ methk.locks = false ∧
  (M.hd = [] → ck.exceptionTable.toList = []) ∧ parseMethodDescriptor M.nm.desc = some methk.sig
/-- what a call needs of the tables -/
def aIk (cl : aCl) (P : List aMt) (own : MethodName) (I : Instr) (lk : aLk) (args : Array Value) (s : State) : Prop := match I with
  | .invokestatic i => ∃ M', P[lk.1]? = some M' ∧ aSig M'.nm lk.2.1 ∧ (Jvm.Cond.methodLink own.cls i M'.nm).before args s = true ∧ (Jvm.Cond.static M'.nm).before args s = true ∧ (Jvm.Cond.initialized M'.nm.cls).before args s = true
  | .invokevirtual i => ∃ M' r n, P[lk.1]? = some M' ∧ cl[lk.2.2.1]? = some r ∧ lk.2.1 = n + 1 ∧ aSig M'.nm n ∧ (Jvm.Cond.methodLink own.cls i M'.nm).before args s = true ∧ (Jvm.Cond.instanceMethod M'.nm).before args s = true ∧ (Jvm.Cond.selects r.1.1 M'.nm M'.nm).before args s = true
  | .invokespecial i => (lk.1 = 0 ∧ lk.2.2.1 = 0 ∧ (Jvm.Cond.methodLink own.cls i Lib.objectInit).before args s = true ∧ (Jvm.Cond.instanceMethod Lib.objectInit).before args s = true ∧ (Jvm.Cond.code Lib.objectInit ⟨#[0xb1]⟩ 1 none).before args s = true) ∨
    (lk.1 = 0 ∧ ∃ x r, lk.2.2.1 = x + 1 ∧ cl[x]? = some r ∧ aOwn r ∧ Bundle.fit r.1.1 = true ∧ ∀ w ∈ Bundle.ownAtoms own.cls i r.1.1 ["java/lang/RuntimeException", "java/lang/Exception"], w.before args s = true) ∨
    ∃ k M' n, lk.1 = k + 1 ∧ P[k]? = some M' ∧ lk.2.1 = n + 1 ∧ aSig M'.nm n ∧ M'.nm.name = "<init>" ∧ ((Jvm.Cond.methodLink own.cls i M'.nm).before args s = true ∨ ∃ host, (Jvm.Cond.methodLinkNest own.cls i M'.nm host).before args s = true) ∧
      (Jvm.Cond.instanceMethod M'.nm).before args s = true ∧ (Jvm.Cond.code M'.nm M'.by M'.nl none).before args s = true
  | _ => True
section ACALL
variable {p : Program} {l : Launch} {e : Env} {R : Room} {s : State} {m : MethodId} {args : Array Value} {below : List Frame} {meth : Method} {c : Code} {H : Heap} {locs : List Loc} {cells slots : Nat} {T : State}
variable {ad : Nat → Nat} {unk : Nat → Value} {own : MethodName} {s0 : State} {D : va_G} {cl : aCl} {K : Nat} {P : List aMt}
/-- the call has come to the callee's door -/
def aDoor (p : Program) (l : Launch) (e : Env) (R : Room) (s : State) (m : MethodId) (args : Array Value) (below : List Frame) (meth : Method) (c : Code) (T : State) (locs : List Loc) (cells slots : Nat) (g : JFrame) (rest as : List Value) (y : MethodName) : Prop :=
  ∃ (vm₁ : Vm) (mk : MethodId), Stand p l e R s m args below meth c (T.setVm vm₁) locs cells slots ∧ s.methodNamed? y = some mk ∧
    ∀ target, (∀ acts, Steps p.tables e below (doInvoke e ((T.setVm vm₁).setTop { g with stack := rest }) acts mk as.toArray).1 target) → Steps p.tables e below (T.setTop g) target
theorem aDoor_S (X : Stand p l e R s m args below meth c T locs cells slots) (hexec : p.tables.exec = Jvm.exec) (hown : s.vm.findClass own.cls = some m.cls) {i : Nat} {M' : aMt} (hM : aMeth s M') {as rest : List Value} (hs : aSig M'.nm as.length)
    (hl : (Jvm.Cond.methodLink own.cls i M'.nm).before args s = true) (hst : (Jvm.Cond.static M'.nm).before args s = true) (hini : (Jvm.Cond.initialized M'.nm.cls).before args s = true)
    {g : JFrame} (hg : g.method = m) (hstack : g.stack = as.reverse ++ rest) (hdg : decode c.code g.pc = .ok (.invokestatic i, 3)) : aDoor p l e R s m args below meth c T locs cells slots g rest as M'.nm := by
  obtain ⟨-, mk, methM, cM, hnamed, hmethM, -, -, -, -, -, -, hsigM⟩ := hM
  have hstatic : methM.isStatic = true := Cond.static_spec hnamed hmethM hst
  obtain ⟨kP, hkP, -⟩ := className_of_methodNamed hnamed
  have hinitP : kP.init = .initialized := Cond.initialized_spec (findClass_of_methodNamed hnamed) hkP hini
  have hlen : as.length = methM.sig.parameters.length := by
    have := hs.2.2
    rw [hsigM] at this
    exact (Option.some.inj this).symm
  obtain ⟨vm₁, X₁, hstep₁⟩ := X.invokestatic hexec hown hl hnamed hmethM hstatic hkP hinitP ⟨hs.1, hs.2.1⟩ (g := g) hg (argsL := as) (rest := rest) hlen hstack hdg
  exact ⟨vm₁, mk, X₁, hnamed, hstep₁⟩
theorem aDoor_V (X : Stand p l e R s m args below meth c T locs cells slots) (hexec : p.tables.exec = Jvm.exec) (hown : s.vm.findClass own.cls = some m.cls) {i : Nat} {M' : aMt} (hM : aMeth s M') {as rest : List Value} {b : Addr} {C : String} (hs : aSig M'.nm as.length)
    (hl : (Jvm.Cond.methodLink own.cls i M'.nm).before args s = true) (hinst : (Jvm.Cond.instanceMethod M'.nm).before args s = true) (hsel : (Jvm.Cond.selects C M'.nm M'.nm).before args s = true)
    {cellB : Cell} (hcell : T.heap[b]? = some cellB) (hobj : cellB.vm.isStatics = false) (hcls : s.vm.findClass C = some cellB.cls)
    {g : JFrame} (hg : g.method = m) (hstack : g.stack = as.reverse ++ .ref b :: rest) (hdg : decode c.code g.pc = .ok (.invokevirtual i, 3)) : aDoor p l e R s m args below meth c T locs cells slots g rest (.ref b :: as) M'.nm := by
  obtain ⟨mk, methM, hnamed, hmethM, hstM, habM⟩ := Cond.instanceMethod_spec hinst
  obtain ⟨-, mk', methM', cM, hnamed', hmethM', -, -, -, -, -, -, hsigM⟩ := hM
  cases hnamed.symm.trans hnamed'
  cases hmethM.symm.trans hmethM'
  have hlen : as.length = methM.sig.parameters.length := by
    have := hs.2.2
    rw [hsigM] at this
    exact (Option.some.inj this).symm
  obtain ⟨c2, r2, m2, q1, q2, q3, q4, kP, hkP, hkPi⟩ := Cond.selects_spec hsel
  cases hcls.symm.trans q1
  cases (State.methodFound?_of_named hnamed ⟨hs.1, hs.2.1⟩).symm.trans q2
  cases hnamed.symm.trans q3
  have hselP : selectMethod e.platform s.vm cellB.cls mk = .method mk := by rw [Launch.admits_selectMethod X.admits]; exact q4
  obtain ⟨vm₁, X₁, hstep₁⟩ := X.invokevirtual hexec hown hl hnamed hmethM hstM hkP hkPi ⟨hs.1, hs.2.1⟩ (a := b) (cell := cellB) hcell
    (fun z h => by rw [h] at hobj; cases hobj) hselP hmethM habM hkP hkPi (g := g) hg (argsL := as) (rest := rest) hlen hstack hdg
  exact ⟨vm₁, mk, X₁, hnamed, hstep₁⟩
theorem aDoor_I (X : Stand p l e R s m args below meth c T locs cells slots) (hexec : p.tables.exec = Jvm.exec) (hown : s.vm.findClass own.cls = some m.cls) {i : Nat} {M' : aMt} {as rest : List Value} {b : Addr} (hs : aSig M'.nm as.length) (hy1 : M'.nm.name = "<init>")
    (hl : (Jvm.Cond.methodLink own.cls i M'.nm).before args s = true ∨ ∃ host, (Jvm.Cond.methodLinkNest own.cls i M'.nm host).before args s = true) (hinst : (Jvm.Cond.instanceMethod M'.nm).before args s = true) (hcode : (Jvm.Cond.code M'.nm M'.by M'.nl none).before args s = true)
    {g : JFrame} (hg : g.method = m) (hstack : g.stack = as.reverse ++ .ref b :: rest) (hdg : decode c.code g.pc = .ok (.invokespecial i, 3)) : aDoor p l e R s m args below meth c T locs cells slots g rest (.ref b :: as) M'.nm := by
  subst hg
  have hpl : e.platform.magicAccessors = ({} : Platform).magicAccessors := by rw [X.admits.platform]
  have hlen : ∀ sig, parseMethodDescriptor M'.nm.desc = some sig → as.length = sig.parameters.length := by
    intro sig h
    have := hs.2.2
    rw [h] at this
    exact (Option.some.inj this).symm
  rcases hl with hl | ⟨host, hl⟩
  · obtain ⟨mk, methM, cM, kP, vm₁, hnamed, -, -, -, -, -, -, -, hW₁, hstep₁⟩ := Steps.initColdArgs (e := e) X.here hexec X.warmed hpl hown hy1 ⟨hs.1, hs.2.1⟩ hl hinst hcode (f := g) rfl hlen hstack hdg
    exact ⟨vm₁, mk, X.noted hW₁, hnamed, hstep₁⟩
  · obtain ⟨mk, methM, cM, kP, vm₁, hnamed, -, -, -, -, -, -, -, hW₁, hstep₁⟩ := Steps.initColdArgsNest (e := e) X.here hexec X.warmed hpl hown hy1 ⟨hs.1, hs.2.1⟩ hl hinst hcode (f := g) rfl hlen hstack hdg
    exact ⟨vm₁, mk, X.noted hW₁, hnamed, hstep₁⟩
end ACALL
end
section
section AENTER
variable {p : Program} {l : Launch} {e : Env} {R : Room} {s : State} {m : MethodId} {args : Array Value} {below : List Frame} {meth : Method} {c : Code} {H : Heap} {locs : List Loc} {cells slots : Nat} {T : State}
variable {ad : Nat → Nat} {unk : Nat → Value} {own : MethodName} {s0 : State} {D : va_G} {cl : aCl} {K : Nat} {P : List aMt}
/-- through the callee's door and back -/
theorem aEnter {U : State} (X : Stand p l e R s m args below meth c U locs cells slots) {g : JFrame} (hg : g.method = m) (hsize : g.locals.size = c.maxLocals) {ig : Instr} (hdg : decode c.code g.pc = .ok (ig, 3))
    {M' : aMt} {mk : MethodId} (hn : U.methodNamed? M'.nm = some mk) (hM : aMeth U M') {as : List Value} {R' : Room}
    (hframes : R'.frames + 1 ≤ R.frames) (hlocals : 2 * g.monitorRoom + (g.stack.map fun v => v.category).sum + (M'.nl + 11) + R'.locals ≤ R.locals) (hcells : cells + R'.cells ≤ R.cells) (hslots : slots + R'.slots ≤ R.slots) {k n : Nat} {res : aOut × aH}
    (hW : ∀ (methk : Method) (ck : Code), ck.code = M'.by → ck.maxLocals = M'.nl → methk.sig.returnType = M'.rt → methk.locks = false → (M'.hd = [] → ck.exceptionTable.toList = []) → methk.name = M'.nm.name → (U.calling g mk as.toArray).vm.findClass M'.nm.cls = some mk.cls →
      W p l e R' (U.calling g mk as.toArray) mk as.toArray (.java g :: below) methk ck U.heap [] 0 0 (aEnd (.java g :: below) (U.calling g mk as.toArray) s0 D cl ad unk K k n res) (entryFrame mk as.toArray M'.nl)) :
    ∃ (T' : State) (L : List Loc), Stand p l e R s m args below meth c T' (locs ++ L) (cells + k) (slots + n) ∧ (∀ q ∈ L, ad K ≤ q.base) ∧ aRel s0 D cl ad unk K res.2 T'.heap ∧
      (∀ v, res.1 = .inl v → ∀ target, Steps p.tables e below (T'.setTop { g with pc := g.pc + 3, stack := (v.map (aV ad unk)).toList ++ g.stack }) target → ∀ acts, Steps p.tables e below (doInvoke e (U.setTop g) acts mk as.toArray).1 target) ∧
      (∀ q, res.1 = .inr q → ∀ target, Steps p.tables e below ((T'.setTop g).pushFrame (.throwing (ad q))) target → ∀ acts, Steps p.tables e below (doInvoke e (U.setTop g) acts mk as.toArray).1 target) := by
  obtain ⟨hpn, mk', methk, ck, hn', hmk, hck, h1, h2, h3, h4, h5, -⟩ := hM
  cases hn.symm.trans hn'
  have hpk : U.plainMethod mk := State.plainMethod.of_named (plainFor_of_name hpn) hn hmk
  obtain ⟨Y, hin⟩ := X.into hg hsize hdg as.toArray (R' := R') hmk hck h4 hpk hframes (by rw [h2]; exact hlocals) hcells hslots
  have hfc : (U.calling g mk as.toArray).vm.findClass M'.nm.cls = some mk.cls := findClass_of_methodNamed (s := U) hn
  have hname : methk.name = M'.nm.name := (name_of_methodNamed hn hmk).1
  have hheap : ((U.setTop g).pushFrame (.java (entryFrame mk as.toArray ck.maxLocals))).heap = U.heap := by simp [State.pushFrame, State.setFrames, State.setTop, State.modifyTopJava]
  obtain ⟨t, hst, o, L, e1, e2, e3, e4, e5, e6, e7⟩ := hW methk ck h1 h2 h3 h4 h5 hname hfc _ hheap Y
  rw [h2] at hst hin
  cases hres : res.1 with
  | inl v =>
    rw [hres] at e7
    subst e7
    obtain ⟨T', X', w1, w2, w3⟩ := X.outOf hg hdg (mk := mk) (a := as.toArray) e2 e3 e4
    refine ⟨T', L, X', e5, ?_, fun v' hv' => ?_, fun q hq => by cases hq⟩
    · have : t.heap = T'.heap := by rw [w3]; simp [State.setTop, State.modifyTopJava, State.setFrames]
      rw [← this]
      exact e6
    · cases hv'
      intro target htg acts
      rw [hin acts]
      have hst' := Steps.weaken (mid := [.java g]) hst
      rw [w3] at hst'
      exact hst'.trans htg
  | inr q =>
    rw [hres] at e7
    subst e7
    obtain ⟨T', X', w1, w2, w3⟩ := X.outOfThrown hg (mk := mk) (a := as.toArray) e2 e3 e4
    refine ⟨T', L, X', e5, ?_, (fun v' hv' => by cases hv'), fun q' hq' => ?_⟩
    · have : t.heap = T'.heap := by rw [w3]; simp [State.pushFrame, State.setTop, State.modifyTopJava, State.setFrames]
      rw [← this]
      exact e6
    · cases hq'
      intro target htg acts
      rw [hin acts]
      have hst' := Steps.weaken (mid := [.java g]) hst
      rw [w3] at hst'
      exact hst'.trans htg
/-- what is known of all methods at a state -/
def aAll (s0 : State) (D : va_G) (cl : aCl) (ad : Nat → Nat) (unk : Nat → Value) (K : Nat) (P : List aMt) (U : State) : Prop :=
  aClOK cl U ∧ aK D cl U ∧ ∀ M ∈ P, aMeth U M ∧ ∀ (pc : Nat) (I : Instr) (lk : aLk), aFind M.cd pc = some (I, lk) →
    (∃ n, decode M.by pc = .ok (I, n) ∧ (n = aLen I ∨ (∃ d ps, I = .lookupswitch d ps) ∨ (∃ d lo hi os, I = .tableswitch d lo hi os))) ∧ ∀ args : Array Value, aLd ad M.nm.cls I lk.2.2.2 args U ∧ aHk s0 cl ad unk K M.nm I lk args U ∧ aIk cl P M.nm I lk args U
/-- a catch in a method with handlers -/
def aThr (s0 : State) (D : va_G) (M : aMt) : Prop := ∀ {p : Program} {l : Launch} {e : Env} {R : Room} {s : State} {m : MethodId} {args : Array Value} {below : List Frame} {meth : Method} {c : Code} {locs : List Loc} {cells slots : Nat} {T : State}
    (_ : Stand p l e R s m args below meth c T locs cells slots) (_ : p.tables.exec = Jvm.exec) (_ : s0.WarmedH s.vm) (_ : s.methodNamed? M.nm = some m) {g : JFrame} (_ : g.method = m) {a : Addr} {k t : Nat} {cell : Cell} (_ : T.heap[a]? = some cell) (_ : cell.cls = D.1 k) (_ : cell.vm.isStatics = false) (_ : aHand M.hd g.pc (2 * k + 8) = some t),
    ∃ vm₁, Stand p l e R s m args below meth c (T.setVm vm₁) locs cells slots ∧ ∀ target, Steps p.tables e below ((T.setVm vm₁).setTop { g with pc := t, stack := [.ref a] }) target → Steps p.tables e below ((T.setTop g).pushFrame (.throwing a)) target
theorem aFind_sw {I : Instr} {n : Nat} (h : n = aLen I ∨ (∃ d ps, I = .lookupswitch d ps) ∨ (∃ d lo hi os, I = .tableswitch d lo hi os)) (h1 : ∀ d ps, I ≠ .lookupswitch d ps) (h2 : ∀ d lo hi os, I ≠ .tableswitch d lo hi os) : n = aLen I := by
  rcases h with h | ⟨d, ps, h⟩ | ⟨d, lo, hi, os, h⟩
  · exact h
  · exact absurd h (h1 d ps)
  · exact absurd h (h2 d lo hi os)
theorem aRet_len {I : Instr} {rt : Option FieldType} {st : List Value} {v : Option Value} (h : aRet I rt st = some v) : aLen I = 1 ∧ (∀ d ps, I ≠ .lookupswitch d ps) ∧ ∀ d lo hi os, I ≠ .tableswitch d lo hi os := by
  cases I <;> first | (exfalso; simp [aRet] at h; done) | exact ⟨rfl, (fun _ _ z => by cases z), (fun _ _ _ _ z => by cases z)⟩
theorem aPure_len {I : Instr} {v : Value} {st st' : List Value} (h : aPure I v st = some st') : (∀ d ps, I ≠ .lookupswitch d ps) ∧ ∀ d lo hi os, I ≠ .tableswitch d lo hi os := by
  cases I <;> first | (exfalso; simp [aPure] at h; done) | exact ⟨(fun _ _ z => by cases z), (fun _ _ _ _ z => by cases z)⟩
theorem aLoc_len {I : Instr} {nl : Nat} {ls ls' : aLc} {st st' : List Value} (h : aLoc nl I ls st = some (ls', st')) : (∀ d ps, I ≠ .lookupswitch d ps) ∧ ∀ d lo hi os, I ≠ .tableswitch d lo hi os := by
  cases I <;> first | (exfalso; simp [aLoc] at h; done) | exact ⟨(fun _ _ z => by cases z), (fun _ _ _ _ z => by cases z)⟩
theorem aHp_len {cl : aCl} {K : Nat} {own : MethodName} {I : Instr} {lk : aLk} {st st' : List Value} {h h' : aH} (e : aHp cl K own I lk st h = some (st', h')) : (∀ d ps, I ≠ .lookupswitch d ps) ∧ ∀ d lo hi os, I ≠ .tableswitch d lo hi os := by
  cases I <;> first | (exfalso; simp [aHp] at e; done) | exact ⟨(fun _ _ z => by cases z), (fun _ _ _ _ z => by cases z)⟩
theorem aCat_vs (hu : ∀ i, (unk i).category = 1) (st : List Value) : ((aVs ad unk st).map fun v => v.category).sum = aCat st := by
  unfold aCat aVs
  rw [List.map_map]
  congr 2
  funext v
  exact aV_cat hu v
theorem aStep_call {cl : aCl} {K : Nat} {M : aMt} {I : Instr} {lk : aLk} {pc : Nat} {ls : aLc} {st : List Value} {h : aH} {k : Nat} {as rest : List Value} (e : aStep cl K M I lk pc ls st h = some (.inr (.inr (k, as, rest)))) :
    (∃ i, I = .invokestatic i ∧ aArgs lk.2.1 st = some (as, rest) ∧ k = lk.1) ∨
    (∃ i q as' vs, I = .invokevirtual i ∧ as = .ref q :: as' ∧ aArgs lk.2.1 st = some (as, rest) ∧ k = lk.1 ∧ h[q]? = some (2 * lk.2.2.1 + 8, vs)) ∨
    (∃ i q as', I = .invokespecial i ∧ as = .ref q :: as' ∧ aArgs lk.2.1 st = some (as, rest) ∧ lk.1 = k + 1) := by
  unfold aStep at e
  split at e
  · cases e
  split at e
  · cases e
  split at e
  · cases e
  split at e
  · cases e
  split at e
  · cases e
  split at e
  · split at e
    · rename_i ha
      cases e
      exact Or.inl ⟨_, rfl, ha, rfl⟩
    · cases e
  · split at e
    · rename_i ha
      split at e
      · rename_i h0
        split at e
        · rename_i hk
          subst hk
          cases e
          exact Or.inr (Or.inl ⟨_, _, _, _, rfl, rfl, ha, rfl, h0⟩)
        · cases e
      · cases e
    · cases e
  · split at e
    · split at e
      · split at e <;> cases e
      · split at e
        · split at e
          · split at e <;> cases e
          · cases e
        · cases e
    · rename_i hk _ _ _ _ _
      split at e
      · rename_i ha
        cases e
        exact Or.inr (Or.inr ⟨_, _, _, rfl, rfl, ha, hk⟩)
      · cases e
    · cases e
  · split at e
    · split at e <;> cases e
    · cases e
  · cases e
theorem a_slN (hu : ∀ i, (unk i).category = 1) (as : List Value) : (lg_sl (aVs ad unk as)).length = aCat as := by
  rw [← aCat_vs (ad := ad) hu as]
  generalize aVs ad unk as = vs
  induction vs with
  | nil => rfl
  | cons v l ih =>
    simp only [lg_sl, List.flatMap_cons, List.length_append, List.map_cons, List.sum_cons] at ih ⊢
    rw [ih]
    rcases lv_cat v with hc | hc <;> simp [hc]
theorem aHand_kd : ∀ {hd : List (Nat × Nat × Nat × Nat)} {pc kd t : Nat}, aHand hd pc kd = some t → ∃ k, kd = 2 * k + 8
  | [], _, _, _, h => by simp [aHand] at h
  | (a, b, t0, k) :: l, pc, kd, t, h => by
    unfold aHand at h
    split at h
    · rename_i hc
      exact ⟨k, hc.2.2⟩
    · exact aHand_kd h
end AENTER
end
section
section ACTOR
set_option maxHeartbeats 4000000 in
/-- the constructor, with a message, of an exception of the JDK's that was just made: it is an object of its class; nothing else is written -/
theorem aCtor_ok {p : Program} {l : Launch} {e : Env} {R : Room} {s : State} {m : MethodId} {args : Array Value} {below : List Frame} {meth : Method} {c : Code} {T : State} {locs : List Loc} {cells slots : Nat}
    (X : Stand p l e R s m args below meth c T locs cells slots) (hexec : p.tables.exec = Jvm.exec) (htr : e.platform.stackTraces = false) {own cls : String} {ic : Nat} (hown : s.vm.findClass own = some m.cls) (hcls : Bundle.fit cls = true)
    (h : ∀ w ∈ Bundle.ownAtoms own ic cls ["java/lang/RuntimeException", "java/lang/Exception"], w.before args s = true) (hlocs : ∀ x ∈ locs, ∀ cell, s.heap[x.base]? = some cell → cell.vm.isStatics = false)
    {a : Addr} {cX : ClassId} {kX : Class} (hfX : s.vm.findClass cls = some cX) (hkX : s.vm.classes[cX]? = some kX) (hcell : T.heap[a]? = some (blank cX kX)) {msg : Value} (hmsg : msg.isRef = true)
    {g : JFrame} (hg : g.method = m) (hsize : g.locals.size = c.maxLocals) {rest : List Value} (hstack : g.stack = msg :: .ref a :: rest) (hdg : decode c.code g.pc = .ok (.invokespecial ic, 3))
    (hRf : 5 < R.frames) (hRl : 2 * g.monitorRoom + (rest.map fun v => v.category).sum + 81 ≤ R.locals) :
    ∃ (vm' : Vm) (cell' : Cell) (L : List Loc), Stand p l e R s m args below meth c ((T.setVm vm').setCell a cell') (locs ++ L) cells slots ∧ (∀ x ∈ L, x.base = a) ∧ cell'.cls = cX ∧ cell'.vm = .none ∧ cell'.monitor = {} ∧
      ∀ target, Steps p.tables e below (((T.setVm vm').setCell a cell').setTop { g with pc := g.pc + 3, stack := rest }) target → Steps p.tables e below (T.setTop g) target := by
  have hn2 : ∀ n ∈ ["java/lang/RuntimeException", "java/lang/Exception"], Bundle.fit n = true := by decide +kernel
  have pf1 : e.platform.frameOwnsMonitors = true := by rw [X.admits.platform]
  have pf2 : e.platform.finalization = false := by rw [X.admits.platform]
  have pf3 : e.platform.magicAccessors = ({} : Platform).magicAccessors := by rw [X.admits.platform]
  have w : ∀ x, x ∈ Bundle.ownAtoms own ic cls ["java/lang/RuntimeException", "java/lang/Exception"] → x.holds args s none s [] = true := fun x hx => h x hx
  obtain ⟨Tc, Z0, hL, -, hY⟩ := ThrowableC.of_atoms (args := args) pf1 pf2 pf3 (fun x hx => h x (by simp [Bundle.ownAtoms, hx]))
  obtain ⟨Z, M, hZ, hM, hnZ⟩ := Init0T.ofS_atoms (args := args) pf3 hL hY (fun x hx => h x (by simp [Bundle.ownAtoms, hx]))
  obtain ⟨P1, Ps, hlen, hP1, hPs, hPm, hk1, hk2⟩ := Bundle.chainS (args := args) pf3 hnZ _ cls hcls hn2 (fun x hx => h x (by simp [Bundle.ownAtoms, hx]))
  have hf1 : s.vm.findClass cls = some P1.m.cls := findClass_of_methodNamed hPm
  cases Option.some.inj (hfX.symm.trans hf1)
  obtain ⟨c1, k1, e1, e2, hord, -, -, -⟩ := Cond.instantiable_spec (w (.instantiable cls 6) (by simp [Bundle.ownAtoms]))
  cases Option.some.inj (e1.symm.trans hf1)
  cases Option.some.inj (hkX.symm.trans e2)
  have sel : ∀ (y : MethodName) (k : MethodId), s.methodNamed? y = some k → (y.cls ≠ "java/lang/invoke/MethodHandle" ∧ y.cls ≠ "java/lang/invoke/VarHandle") → (Cond.selects cls y y).holds args s none s [] = true → selectMethod e.platform s.vm P1.m.cls k = .method k := by
    intro y k hk hy hs
    obtain ⟨c2, r2, m2, q1, q2, q3, q4, -⟩ := Cond.selects_spec hs
    cases Option.some.inj (q1.symm.trans hf1)
    cases Option.some.inj (q2.symm.trans (State.methodFound?_of_named hk hy))
    cases Option.some.inj (q3.symm.trans hk)
    rw [Launch.admits_selectMethod X.admits]
    exact q4
  have s1 := sel _ _ hY.fill0 (by decide) (w (.selects cls Bundle.tFill0 Bundle.tFill0) (by simp [Bundle.ownAtoms]))
  have s2 := sel _ _ hY.fill (by decide) (w (.selects cls Bundle.tFill Bundle.tFill) (by simp [Bundle.ownAtoms]))
  obtain ⟨cS, hcS, hst⟩ := hY.statics
  obtain ⟨u0, hu0⟩ := Cond.staticRefV hY.unassigned hL.unassignedStatic hL.statics hcS hst (w (.isRef (.static Bundle.tN "UNASSIGNED_STACK" Bundle.steD)) (by simp [Bundle.ownAtoms]))
  obtain ⟨sn, hsn⟩ := Cond.staticRefV hY.sentinel hL.sentinelStatic hL.statics hcS hst (w (.isRef (.static Bundle.tN "SUPPRESSED_SENTINEL" Bundle.listD)) (by simp [Bundle.ownAtoms]))
  obtain ⟨b1, b2, fB, b3, b4, b5, b6, -, b7, b8, b9⟩ := Cond.ownField (t := .object "java/lang/Object") hY.found hL.cls (by decide +kernel) (w (.fieldLink Bundle.tN 198 Bundle.tN "backtrace" "Ljava/lang/Object;") (by simp [Bundle.ownAtoms])) (w (.lays Bundle.tN Bundle.tN "backtrace" "Ljava/lang/Object;") (by simp [Bundle.ownAtoms])) e.platform pf3
  obtain ⟨cT, hcT, eT, -, hkeep⟩ := X.same.2.2.2.2.2 Tc.aS cS hcS
  have hcT' : T.heap[Tc.aS]? = some cT := hcT
  have hno : ∀ i, (⟨Tc.aS, i⟩ : Loc) ∉ locs := fun i hm => by
    have := hlocs _ hm cS hcS
    rw [hst] at this
    cases this
  have hvT : cT.vm.isStatics = true := by have := congrArg Cell.vm eT; rw [show cT.vm = cS.vm from this]; exact hst
  have hkn : cT.vm ≠ .unknown := fun z => by rw [z] at hvT; cases hvT
  have hne : Tc.aS ≠ a := by
    rintro rfl
    cases Option.some.inj (hcT'.symm.trans hcell)
    cases hvT
  obtain ⟨iM, fM⟩ := hY.msg
  obtain ⟨t1, d1, x1, y1⟩ := Cond.laysAt hf1 hkX hY.cause (w (.lays cls Bundle.tN "cause" "Ljava/lang/Throwable;") (by simp [Bundle.ownAtoms]))
  obtain ⟨t2, d2, x2, y2⟩ := Cond.laysAt hf1 hkX hY.stack (w (.lays cls Bundle.tN "stackTrace" Bundle.steD) (by simp [Bundle.ownAtoms]))
  obtain ⟨t3, d3, x3, y3⟩ := Cond.laysAt hf1 hkX hY.supp (w (.lays cls Bundle.tN "suppressedExceptions" Bundle.listD) (by simp [Bundle.ownAtoms]))
  obtain ⟨t4, d4, x4, y4⟩ := Cond.laysAt hf1 hkX fM (w (.lays cls Bundle.tN "detailMessage" "Ljava/lang/String;") (by simp [Bundle.ownAtoms]))
  obtain ⟨t5, d5, x5, y5⟩ := Cond.laysAt hf1 hkX b9 (w (.lays cls Bundle.tN "backtrace" "Ljava/lang/Object;") (by simp [Bundle.ownAtoms]))
  have z1 := Cond.laysApart x5 x1 y5 y1 (by rw [b7, hY.causeName]; decide)
  have z2 := Cond.laysApart x5 x2 y5 y2 (by rw [b7, hY.stackName]; decide)
  have z3 := Cond.laysApart x5 x3 y5 y3 (by rw [b7, hY.suppName]; decide)
  have hskip : SkipFacts Tc e.platform s (fun u => u) u0 ((preparedCellV Tc.toThrowableT (blank P1.m.cls kX) a u0 sn).withEntry T.cur) :=
    ⟨{ ci198 := b1, i198 := b2, fBack := fB }, ⟨b3, b4, b5, b6⟩, by
      have := fresh_default (c := P1.m.cls) t5
      rw [b8] at this
      have this : (blank P1.m.cls kX).slots[fB.slot]? = some .null := this
      simpa [preparedCellV, Cell.setSlot, Cell.withEntry, Array.getElem?_setIfInBounds, z1, z2, z3, z1.symm, z2.symm, z3.symm, defaultValue] using this, fun _ _ => rfl⟩
  obtain ⟨tm, mC, cC, kC, vm₁, hnC, -, -, -, -, -, -, -, hW₁, st1⟩ := Steps.initColdS (tb := p.tables) (e := e) (below := below) (s := s) (U := T) X.here hexec X.warmed pf3 hown (t := Bundle.initS cls) rfl rfl (Bundle.fit_spec hcls).2
    (w (.methodLink own ic (Bundle.initS cls)) (by simp [Bundle.ownAtoms])) (h (.instanceMethod (Bundle.initS cls)) (by simp [Bundle.ownAtoms, Bundle.chainSAtoms, Bundle.passSAtoms])) (bytes := Bundle.six) (maxL := 2) (h (.code (Bundle.initS cls) Bundle.six 2 none) (by simp [Bundle.ownAtoms, Bundle.chainSAtoms, Bundle.passSAtoms]))
    (f := g) hg (a := a) (msg := msg) (rest := rest) hstack hdg
  cases Option.some.inj (hnC.symm.trans hPm)
  obtain ⟨vm₂, X₂, st2⟩ := (X.noted hW₁).ctorMessageOffV hexec (g := { g with stack := rest }) hg hsize Tc hL Z hZ M hM (P1 :: Ps) (fun P hP => by rcases List.mem_cons.mp hP with rfl | hP; exact hP1; exact hPs P hP) ⟨hk1, hk2⟩ (u0 := u0) (sen := sn) (self := a) hmsg (cell := blank P1.m.cls kX) (cellS := cT)
    hcell (fun _ z => by cases z) (fun z => by cases z) rfl rfl s1 s2 hcT' hne hkn (by rw [hkeep _ (hno _)]; exact hu0) (by rw [hkeep _ (hno _)]; exact hsn)
    (Takes.of_laid hkX hord t1 (by rw [hY.causeType]; rfl)) (Takes.of_laid hkX hord t2 (by rw [hY.stackType]; exact fits_refV_array _ u0)) (Takes.of_laid hkX hord t3 (by rw [hY.suppType]; exact fits_refV_object _ sn))
    (Takes.of_laid hkX hord t4 (by rw [hY.msgType]; exact fits_refV_object _ ⟨msg, hmsg⟩)) hY.objLocals hskip htr [] hdg
    (by simp only [List.length_cons, hlen]; show 2 + 1 + 2 < R.frames; omega) (by simp only [List.length_cons, hlen]; show 2 * g.monitorRoom + _ + (13 * (2 + 1) + 42) ≤ R.locals; omega)
  refine ⟨vm₂, _, _, X₂, ?_, rfl, rfl, rfl, fun target htg => st1 target fun acts => ?_⟩
  · intro x hx
    simp only [List.mem_cons, List.not_mem_nil, or_false] at hx
    rcases hx with rfl | rfl | rfl | rfl | rfl <;> rfl
  · rw [doInvoke_state]
    exact st2 target htg
end ACTOR
end
section
/-! an exception caught by a handler whose class may not be resolved yet -/
theorem a_go_cold {E : CtlPost} {e : Env} {d : Bool} {acts : List Action} {s : State} {f : JFrame} {a : Addr} {Q : Handler → Pre} {x : ExceptionTableEntry} {t : List ExceptionTableEntry} {c : ClassId} {cell : Cell} {vm' : Vm} (hx : covers x f.pc = true) (h0 : x.catchType ≠ 0)
    (hg : (Jvm.resolveClass f.method.cls x.catchType).Gives e.toSetting s.vm (.ok c) vm') (hsz : vm'.classes.size ≤ s.vm.classes.size) (hcell : s.heap[a]? = some cell) (hobj : ∀ k, cell.vm ≠ .statics k)
    (hk : ∃ k, vm'.classes[cell.cls]? = some k) (hc : ∃ k, vm'.classes[c]? = some k) :
    wp (findHandler.go f a (x :: t)) Q E e d acts s ↔ if vm'.assignable cell.cls c = true then Q (.found x.handlerPc) d acts (s.setVm vm') else wp (findHandler.go f a t) Q E e d acts (s.setVm vm') := by
  simp only [covers] at hx
  obtain ⟨ha, ht⟩ := hg.op (op := VmOp.resolveClass f.method.cls x.catchType) rfl
  cases hfit : vm'.assignable cell.cls c <;>
    simp [findHandler.go, hx, h0, ha, ht, hsz, hcell, hobj, hk, hc, hfit, VmOp.dirties, VmOp.acts]
theorem a_go {e : Env} {s : State} {f : JFrame} {a : Addr} {cell : Cell} {D : va_G} {k tt : Nat} (hcls : cell.cls = D.1 k) (hst : cell.vm.isStatics = false) (hkc : ∃ kc, s.vm.classes[cell.cls]? = some kc) :
    ∀ (xs : List ExceptionTableEntry) (hs : List ((Nat × Nat × Nat × Nat) × Nat)) (U : State), xs.map (fun h => (h.startPc, h.endPc, h.handlerPc, h.catchType)) = hs.map (fun q => (q.1.1, q.1.2.1, q.1.2.2.1, q.2)) →
      (∀ q ∈ hs, q.2 ≠ 0 ∧ s.vm.ClassLinks e.platform f.method.cls q.2 (D.1 q.1.2.2.2) ∧ (q.1.2.2.2 ≠ k → s.vm.assignable (D.1 k) (D.1 q.1.2.2.2) = false)) → s.WarmedH U.vm → U.heap[a]? = some cell → aHand (hs.map (·.1)) f.pc (2 * k + 8) = some tt →
      ∃ vm', s.WarmedH vm' ∧ ∀ (Q : Handler → Pre) (E : CtlPost) (d : Bool) (acts : List Action), wp (findHandler.go f a xs) Q E e d acts U ↔ Q (.found tt) d acts (U.setVm vm')
  | [], [], _, _, _, _, _, h => by simp [aHand] at h
  | [], _ :: _, _, h, _, _, _, _ => by simp at h
  | _ :: _, [], _, h, _, _, _, _ => by simp at h
  | x :: xs, q :: hs, U, hm, hq, hW, hcell, hh => by
    obtain ⟨⟨p1, p2, p3, p4⟩, ct⟩ := q
    simp only [List.map_cons, List.cons.injEq, Prod.mk.injEq] at hm
    obtain ⟨⟨m1, m2, m3, m4⟩, hm⟩ := hm
    have hq' : ∀ q ∈ hs, q.2 ≠ 0 ∧ s.vm.ClassLinks e.platform f.method.cls q.2 (D.1 q.1.2.2.2) ∧ (q.1.2.2.2 ≠ k → s.vm.assignable (D.1 k) (D.1 q.1.2.2.2) = false) := fun q h => hq q (List.mem_cons_of_mem _ h)
    obtain ⟨w1, w2, w3⟩ := hq _ List.mem_cons_self
    simp only at w1 w2 w3
    simp only [List.map_cons, aHand] at hh
    by_cases hcov : covers x f.pc = true
    · have hcov' : p1 ≤ f.pc ∧ f.pc < p2 := by
        simp only [covers, Bool.and_eq_true, decide_eq_true_eq] at hcov
        omega
      obtain ⟨dk, _, _, kt, hd, _, _, _, _, hkt, _, hopen⟩ := w2.here
      have hcl0 := hW.classLinks w2
      have hW' : s.WarmedH (U.vm.noted f.method.cls ct (.cls (D.1 p4))) := hW.noted hd hopen (State.rightAt_cls w2)
      obtain ⟨kc, hkc⟩ := hkc
      obtain ⟨kc', hkc', -⟩ := hW'.alike.2.2 _ _ hkc
      obtain ⟨kt', hkt', -⟩ := hW'.alike.2.2 _ _ hkt
      have hsz : (U.vm.noted f.method.cls ct (.cls (D.1 p4))).classes.size ≤ U.vm.classes.size := by
        have h1 : s.vm.classes.size = U.vm.classes.size := hW.alike.2.1.symm
        have h2 : s.vm.classes.size = (U.vm.noted f.method.cls ct (.cls (D.1 p4))).classes.size := hW'.alike.2.1.symm
        omega
      have key := fun (Q : Handler → Pre) (E : CtlPost) (d : Bool) (acts : List Action) => a_go_cold (Q := Q) (E := E) (d := d) (acts := acts) (e := e) (s := U) (f := f) (a := a) (x := x) (t := xs) (c := D.1 p4) (cell := cell) (vm' := U.vm.noted f.method.cls ct (.cls (D.1 p4))) hcov (by rw [m4]; exact w1) (by rw [m4]; exact resolveClass_links e.toSetting hcl0) hsz hcell (VmData.noStatics_of hst) ⟨kc', hkc'⟩ ⟨kt', hkt'⟩
      by_cases hk : p4 = k
      · subst hk
        rw [if_pos ⟨hcov'.1, hcov'.2, rfl⟩] at hh
        cases hh
        refine ⟨_, hW', fun Q E d acts => ?_⟩
        rw [key, hcls, if_pos (va_asg _ _), m3]
      · rw [if_neg (fun z => hk (by omega))] at hh
        obtain ⟨vm2, g1, g2⟩ := a_go hcls hst ⟨kc, hkc⟩ xs hs (U.setVm (U.vm.noted f.method.cls ct (.cls (D.1 p4)))) hm hq' hW' hcell hh
        refine ⟨vm2, g1, fun Q E d acts => ?_⟩
        have hna : (U.vm.noted f.method.cls ct (.cls (D.1 p4))).assignable cell.cls (D.1 p4) = false := by
          rw [hW'.alike.assignable, hcls]
          exact w3 hk
        rw [key, if_neg (by rw [hna]; decide)]
        exact g2 Q E d acts
    · have hcov0 : covers x f.pc = false := by simpa using hcov
      rw [if_neg (fun z => by
        apply hcov
        simp only [covers, Bool.and_eq_true, decide_eq_true_eq]
        omega)] at hh
      obtain ⟨vm2, g1, g2⟩ := a_go hcls hst hkc xs hs U hm hq' hW hcell hh
      refine ⟨vm2, g1, fun Q E d acts => ?_⟩
      rw [W.findHandler_go_skip hcov0]
      exact g2 Q E d acts
theorem aThr_of {s0 : State} {D : va_G} {cl : aCl} {M : aMt} (hs : List ((Nat × Nat × Nat × Nat) × Nat)) (hhd : M.hd = hs.map (·.1)) (hK : ∀ U : State, s0.WarmedH U.vm → aK D cl U)
    (hcw : ∀ U : State, s0.WarmedH U.vm → (Cond.codeWith M.nm M.by M.nl M.rt (hs.map (fun q => (q.1.1, q.1.2.1, q.1.2.2.1, q.2)))).before #[] U = true)
    (hlk : ∀ q ∈ hs, q.2 ≠ 0 ∧ ∃ r, cl[q.1.2.2.2]? = some r ∧ aOwn r ∧ ∀ U : State, s0.WarmedH U.vm → (Cond.classLink M.nm.cls q.2 r.1.1).before #[] U = true)
    (hnc : ∀ q ∈ hs, ∀ q' ∈ hs, q.1.2.2.2 ≠ q'.1.2.2.2 → s0.vm.assignable (D.1 q.1.2.2.2) (D.1 q'.1.2.2.2) = false) : aThr s0 D M := by
  intro p l e R s m args below meth c locs cells slots T X hx hW hnm g hg a k tt cell hcell hcls hst hh
  subst hg
  have hpl : e.platform.magicAccessors = ({} : Platform).magicAccessors := by rw [X.admits.platform]
  obtain ⟨m', meth', c', hn', hm', hc', -, -, hrows, -, -, -⟩ := Cond.codeWith_spec (hcw s hW)
  cases hnm.symm.trans hn'
  have hown : s.vm.findClass M.nm.cls = some g.method.cls := findClass_of_methodNamed hnm
  rw [hhd] at hh
  obtain ⟨q0, hq0, hk0⟩ : ∃ q ∈ hs, q.1.2.2.2 = k := by
    clear hrows hlk hnc hcw hhd
    induction hs with
    | nil => simp [aHand] at hh
    | cons q l ih =>
      obtain ⟨⟨p1, p2, p3, p4⟩, ct⟩ := q
      simp only [List.map_cons, aHand] at hh
      split at hh
      · rename_i hc2
        exact ⟨_, List.mem_cons_self, by have := hc2.2.2; simp only; omega⟩
      · obtain ⟨q, h1, h2⟩ := ih hh
        exact ⟨q, List.mem_cons_of_mem _ h1, h2⟩
  have hTn : ((T.setTop g).pushFrame (.throwing a)).vm = T.vm := Stand.throwing_vm T g a
  have hTh : ((T.setTop g).pushFrame (.throwing a)).heap = T.heap := Stand.throwing_heap T g a
  have hfacts : ∀ q ∈ hs, q.2 ≠ 0 ∧ s.vm.ClassLinks e.platform g.method.cls q.2 (D.1 q.1.2.2.2) ∧ (q.1.2.2.2 ≠ k → s.vm.assignable (D.1 k) (D.1 q.1.2.2.2) = false) := by
    intro q hq
    obtain ⟨h1, r, hr, -, h2⟩ := hlk q hq
    refine ⟨h1, ?_, fun hne => ?_⟩
    · obtain ⟨cc, e1, e2⟩ := Cond.classLink_spec hown (h2 s hW) e.platform hpl
      cases ((hK s hW) _ _ hr).2.1.symm.trans e1
      exact e2
    · have := hnc q0 hq0 q hq (by rw [hk0]; exact Ne.symm hne)
      rw [hk0] at this
      rw [hW.alike.assignable]
      exact this
  have hkc : ∃ kc, s.vm.classes[cell.cls]? = some kc := by
    obtain ⟨-, r, hr, ho, -⟩ := hlk q0 hq0
    obtain ⟨kc, h1, -⟩ := ((hK s hW) _ _ hr).2.2 ho
    rw [hcls, ← hk0]
    exact ⟨kc, h1⟩
  obtain ⟨vm', w1, w2⟩ := a_go (e := e) (f := g) (a := a) hcls hst hkc c'.exceptionTable.toList hs ((T.setTop g).pushFrame (.throwing a)) hrows hfacts (by rw [hTn]; exact X.warmed) (by rw [hTh]; exact hcell) hh
  refine ⟨vm', X.noted w1, fun target htg => ?_⟩
  have hA : At T g.method c below := X.here
  obtain ⟨hgo, hwi⟩ := hA.throwing a
  refine Steps.head hgo hwi ?_
  have hmT : ((T.setTop g).pushFrame (.throwing a)).vm.method? g.method = some meth' := by
    rw [hTn, X.warmed.alike.method?]
    exact hm'
  have hfr : ((T.setTop g).pushFrame (.throwing a)).frames = .throwing a :: .java g :: T.frames.tail := frames_entered hA.top _
  have hstep : (stepThrowing e ((T.setTop g).pushFrame (.throwing a)) a (.java g :: T.frames.tail)).Is ((((T.setTop g).pushFrame (.throwing a)).setVm vm').setFrames (.java { g with pc := tt, stack := [.ref a] } :: T.frames.tail)) [] := by
    simp only [stepThrowing, searchFrame, vmDo]
    generalize hr : Sem.go _ e false [] _ = res
    obtain ⟨as, rfl, ha⟩ := Sem.eq_ok_of hr (a := Handler.found tt) (s' := ((T.setTop g).pushFrame (.throwing a)).setVm vm') (acts' := []) (by
      simp only [wp_bind']
      rw [W.findHandler_eq hmT hc', w2]
      simp)
    exact ⟨rfl, ha⟩
  rw [stepThread_throwing hfr, hstep.1]
  obtain ⟨g₀, hg0⟩ := Option.isSome_iff_exists.mp hA.top
  obtain ⟨r, hr⟩ := State.topJava?_eq_some.mp hg0
  have hr' : (T.setVm vm').frames = .java g₀ :: r := hr
  rw [State.setTop_of_frames _ hr'] at htg
  rw [State.pushFrame, State.setTop_of_frames _ hr, State.setFrames_setFrames, hr]
  show Steps p.tables e below (((T.setVm vm').setFrames _).setFrames _) target
  rw [State.setFrames_setFrames]
  exact htg
end
section
theorem a_arith {c a b d : Nat} (h1 : a ≤ b) (h2 : b ≤ d) : c + (b - a) + (d - b) = c + (d - a) := by omega
set_option maxHeartbeats 4000000 in
theorem aSound {s0 : State} {D : va_G} {cl : aCl} {ad : Nat → Nat} {unk : Nat → Value} {K : Nat} {P : List aMt} (hA : aAd ad K) (hu : ∀ i, (unk i).category = 1) (hsz : s0.heap.size = ad K)
    (HE : ∀ U : State, s0.WarmedH U.vm → aAll s0 D cl ad unk K P U) (HC : ∀ M ∈ P, M.hd ≠ [] → aThr s0 D M) :
    ∀ (n : Nat) (M : aMt) (d pc : Nat) (lc : aLc) (st : List Value) (h : aH) (res : aOut × aH), M ∈ P → aRun cl K P n M d pc lc st h = some res →
      ∀ (p : Program) (l : Launch) (e : Env) (R : Room) (s : State) (m : MethodId) (args : Array Value) (below : List Frame) (meth : Method) (c : Code) (H : Heap) (locs : List Loc) (cells slots : Nat) (ls : Array Slot),
        p.tables.exec = Jvm.exec → e.platform.stackTraces = false → (∀ (q : Nat) (cell : Cell), ad K ≤ q → s.heap[q]? = some cell → cell.vm.isStatics = false) → s0.WarmedH s.vm → s.methodNamed? M.nm = some m → c.code = M.by → c.maxLocals = M.nl → meth.sig.returnType = M.rt → meth.locks = false → meth.name = M.nm.name → (M.hd = [] → c.exceptionTable.toList = []) →
        d + 6 ≤ R.frames → 100 * d + 100 ≤ R.locals → aRel s0 D cl ad unk K h H → lv_has ls M.nl (aLs ad unk lc) → (∀ q ∈ locs, ad K ≤ q.base) →
        cells + (res.2.length - h.length) ≤ R.cells → slots + (aSzs cl res.2 - aSzs cl h) ≤ R.slots →
        W p l e R s m args below meth c H locs cells slots (aEnd below s s0 D cl ad unk K (cells + (res.2.length - h.length)) (slots + (aSzs cl res.2 - aSzs cl h)) res) (F0 m pc ls (aVs ad unk st))
  | 0, _, _, _, _, _, _, _, _, hr => by simp [aRun] at hr
  | n + 1, M, d, pc, lc, st, h, res, hMP, hr => by
    intro p l e R s m args below meth c H locs cells slots ls hx htr hsts hW hnm hb hml hrt hlk hname hex hRf hRl hR hl hlocs hcells hslots
    have IH := aSound hA hu hsz HE HC n
    obtain ⟨hcl, hK, hall⟩ := HE s hW
    obtain ⟨hMm, hMe⟩ := hall M hMP
    have hown : s.vm.findClass M.nm.cls = some m.cls := findClass_of_methodNamed hnm
    have hal : s0.vm.Alike s.vm := hW.alike
    have hmono0 := aRun_mono _ _ _ _ _ _ _ _ hr
    unfold aRun at hr
    split at hr
    · cases hr
    rename_i I lk hf
    obtain ⟨⟨len, hdg, hlen⟩, hfacts⟩ := hMe pc I lk hf
    obtain ⟨hld, hhk, hik⟩ := hfacts args
    split at hr
    · cases hr
    · -- it goes on
      rename_i pc' lc' st' h' hs
      have hm1 := (aStep_mono hs).1 _ _ _ _ rfl
      have hm2 := aRun_mono _ _ _ _ _ _ _ _ hr
      have kgo : ∀ (H' : Heap) (locs' : List Loc) (ls' : Array Slot), aRel s0 D cl ad unk K h' H' → lv_has ls' M.nl (aLs ad unk lc') → (∀ q ∈ locs', ad K ≤ q.base) →
          W p l e R s m args below meth c H' locs' (cells + (h'.length - h.length)) (slots + (aSzs cl h' - aSzs cl h)) (aEnd below s s0 D cl ad unk K (cells + (res.2.length - h.length)) (slots + (aSzs cl res.2 - aSzs cl h)) res) (F0 m pc' ls' (aVs ad unk st')) := by
        intro H' locs' ls' a1 a2 a3
        have := IH M d pc' lc' st' h' res hMP hr p l e R s m args below meth c H' locs' (cells + (h'.length - h.length)) (slots + (aSzs cl h' - aSzs cl h)) ls'
          hx htr hsts hW hnm hb hml hrt hlk hname hex hRf hRl a1 a2 a3 (by omega) (by omega)
        rw [show cells + (h'.length - h.length) + (res.2.length - h'.length) = cells + (res.2.length - h.length) by omega, show slots + (aSzs cl h' - aSzs cl h) + (aSzs cl res.2 - aSzs cl h') = slots + (aSzs cl res.2 - aSzs cl h) by omega] at this
        exact this
      have kgo0 : h' = h → ∀ (ls' : Array Slot), lv_has ls' M.nl (aLs ad unk lc') → W p l e R s m args below meth c H locs cells slots (aEnd below s s0 D cl ad unk K (cells + (res.2.length - h.length)) (slots + (aSzs cl res.2 - aSzs cl h)) res) (F0 m pc' ls' (aVs ad unk st')) := by
        intro e0 ls' a2
        subst e0
        have := kgo H locs ls' hR a2 hlocs
        rw [Nat.sub_self, Nat.sub_self] at this
        exact this
      unfold aStep at hs
      split at hs
      · rename_i hp1
        cases hs
        obtain ⟨g1, g2⟩ := aPure_len hp1
        have hlen := aFind_sw hlen g1 g2
        subst hlen
        exact aPure_ok hx hb hown hp1 hdg hld (kgo0 rfl ls hl)
      split at hs
      · rename_i hp1
        cases hs
        obtain ⟨g1, g2⟩ := aLoc_len hp1
        have hlen := aFind_sw hlen g1 g2
        subst hlen
        exact aLoc_ok hu hx hb hp1 hdg hl (kgo0 rfl)
      split at hs
      · rename_i hp1
        cases hs
        exact aBr_ok hx hb hp1 hdg hlen (kgo0 rfl ls hl)
      split at hs
      · rename_i hp1
        cases hs
        obtain ⟨g1, g2⟩ := aHp_len hp1
        have hlen := aFind_sw hlen g1 g2
        subst hlen
        exact aHp_ok hA hx hb hW hown hname hcl hK hsz hp1 hdg hR hhk hlocs (by omega) (by omega) (fun H' locs' a1 a2 => kgo H' locs' ls a1 hl a2)
      split at hs
      · cases hs
      split at hs
      · split at hs <;> cases hs
      · split at hs
        · split at hs
          · split at hs <;> cases hs
          · cases hs
        · cases hs
      · split at hs
        · rename_i w0 r0 hz _ _ _ _ _
          split at hs
          · rename_i hz2
            split at hs
            · rename_i hcat
              cases hs
              have hlen := aFind_sw hlen (fun _ _ z => by cases z) (fun _ _ _ _ z => by cases z)
              have hlen : len = 3 := hlen
              subst hlen
              rcases hik with ⟨-, -, w1, w2, w3⟩ | ⟨-, x, r9, e0, -⟩ | ⟨k0, M', n0, e0, -⟩
              · refine W.objInit hx hb hown w1 w2 w3 rfl (by rw [hl.1, hml]) rfl hdg (by omega) ?_ (kgo0 rfl ls hl)
                have := aCat_vs (ad := ad) hu st'
                show 2 * 0 + ((aVs ad unk st').map fun v => v.category).sum + 12 ≤ R.locals
                omega
              · rw [hz2] at e0
                cases e0
              · rw [hz] at e0
                cases e0
            · cases hs
          · rename_i x hz2
            split at hs
            · rename_i q r' _ _ _ _ _
              split at hs
              · rename_i kd vs h0
                split at hs
                · rename_i hc
                  obtain ⟨hkd, hKq, hcat⟩ := hc
                  subst hkd
                  cases hs
                  have hlen := aFind_sw hlen (fun _ _ z => by cases z) (fun _ _ _ _ z => by cases z)
                  have hlen : len = 3 := hlen
                  subst hlen
                  rcases hik with ⟨-, e0, -⟩ | ⟨-, x', r9, e0, e1, e2, e3, e4⟩ | ⟨k0, M', n0, e0, -⟩
                  · rw [hz2] at e0
                    cases e0
                  · have hxx : x' = x := by omega
                    subst hxx
                    obtain ⟨cell, g1, g2, g3, g4, g5⟩ := hR.2.2.2 q _ h0
                    rcases g5 with ⟨z, -⟩ | ⟨j, r8, z, -⟩ | ⟨j, r8, kC, z, z1, -, z2, z3⟩
                    · exfalso
                      have z : 2 * x' + 9 < 8 := z
                      omega
                    · exfalso
                      have z : 2 * x' + 9 = 2 * j + 8 := z
                      omega
                    · have hjx : j = x' := by have z : 2 * x' + 9 = 2 * j + 9 := z; omega
                      subst hjx
                      cases e1.symm.trans z1
                      obtain ⟨kC', k1, k2⟩ := z2 s hW
                      have hcellE : cell = blank (D.1 j) kC' := by rw [z3, k2]
                      intro T hT X
                      obtain ⟨vm', cell', L, X', c1, c2, c3, c4, c5⟩ := aCtor_ok X hx htr hown e3 e4 (fun y hy cc hcc => hsts _ _ (hlocs y hy) hcc) (a := ad q) (hK _ _ e1).2.1 k1 (by rw [hT, ← hcellE]; exact g1) (msg := .ref (ad w0)) rfl (g := F0 m pc ls (aVs ad unk (.ref w0 :: .ref q :: st'))) rfl (by rw [hl.1, hml]) (rest := aVs ad unk st') rfl (by rw [hb]; exact hdg) (by omega)
                        (by
                          have := aCat_vs (ad := ad) hu st'
                          show 2 * 0 + ((aVs ad unk st').map fun v => v.category).sum + 81 ≤ R.locals
                          omega)
                      have hlt : ad q < T.heap.size := by rw [hT]; exact (Array.getElem?_eq_some_iff.mp g1).1
                      have hH : ((T.setVm vm').setCell (ad q) cell').heap = T.heap.setIfInBounds (ad q) cell' := rfl
                      have hR' : aRel s0 D cl ad unk K (h.set q (2 * j + 8, [])) ((T.setVm vm').setCell (ad q) cell').heap := by
                        rw [hH, hT]
                        refine hR.set hA h0 hKq ⟨cell', ?_, by rw [c3]; exact (fun z => by cases z), by rw [c3]; rfl, (fun _ => ⟨c3, c4⟩), Or.inr (Or.inl ⟨j, r9, rfl, e1, c2, fun k v _ hv => by cases hv⟩)⟩ (by simp) (fun a ha => by rw [Array.getElem?_setIfInBounds, if_neg (Ne.symm ha)])
                        rw [Array.getElem?_setIfInBounds, if_pos rfl, if_pos (by rw [← hT]; exact hlt)]
                      have hl1 : (h.set q (2 * j + 8, [])).length = h.length := List.length_set
                      have hl2 : aSzs cl (h.set q (2 * j + 8, [])) = aSzs cl h := aSzs_set cl _ _ _ _ h0 (by
                        unfold aSz
                        rw [if_neg (by omega), if_neg (by omega)]
                        congr 2
                        omega)
                      have hg := kgo _ (locs ++ L) ls hR' hl (fun y hy => by
                        rcases List.mem_append.mp hy with hy | hy
                        · exact hlocs y hy
                        · rw [c1 y hy]
                          exact hA.ge hKq)
                      rw [hl1, hl2, Nat.sub_self, Nat.sub_self] at hg
                      obtain ⟨t, b1, b2⟩ := hg _ rfl X'
                      exact ⟨t, c5 t b1, b2⟩
                  · rw [hz] at e0
                    cases e0
                · cases hs
              · cases hs
            · cases hs
        · split at hs <;> cases hs
        · cases hs
      · split at hs
        · split at hs <;> cases hs
        · cases hs
      · cases hs
    · -- it ends
      rename_i r hs
      cases hr
      obtain ⟨o, h'⟩ := res
      have he : h' = h := by
        unfold aStep at hs
        split at hs
        · cases hs
        split at hs
        · cases hs
        split at hs
        · cases hs
        split at hs
        · cases hs
        split at hs
        · cases hs
          rfl
        split at hs
        · split at hs <;> cases hs
        · split at hs
          · split at hs
            · split at hs <;> cases hs
            · cases hs
          · cases hs
        · split at hs
          · split at hs
            · split at hs <;> cases hs
            · split at hs
              · split at hs
                · split at hs <;> cases hs
                · cases hs
              · cases hs
          · split at hs <;> cases hs
          · cases hs
        · split at hs
          · split at hs <;> cases hs
            rfl
          · cases hs
        · cases hs
      subst he
      rw [Nat.sub_self, Nat.sub_self]
      unfold aStep at hs
      split at hs
      · cases hs
      split at hs
      · cases hs
      split at hs
      · cases hs
      split at hs
      · cases hs
      split at hs
      · rename_i hp1
        cases hs
        obtain ⟨g0, g1, g2⟩ := aRet_len hp1
        have hlen := aFind_sw hlen g1 g2
        rw [hlen, g0] at hdg
        exact aRet_ok hx hb hlk hrt hp1 hdg hR hlocs
      split at hs
      · split at hs <;> cases hs
      · split at hs
        · split at hs
          · split at hs <;> cases hs
          · cases hs
        · cases hs
      · split at hs
        · split at hs
          · split at hs <;> cases hs
          · split at hs
            · split at hs
              · split at hs <;> cases hs
              · cases hs
            · cases hs
        · split at hs <;> cases hs
        · cases hs
      · split at hs
        · rename_i q r0 _ _ _ _ _
          split at hs
          · rename_i hhd
            cases hs
            have hlen := aFind_sw hlen (fun _ _ z => by cases z) (fun _ _ _ _ z => by cases z)
            have hlen : len = 1 := hlen
            subst hlen
            have hout : ∀ x ∈ c.exceptionTable.toList, covers x (F0 m pc ls (aVs ad unk (.ref q :: r0))).pc = false := by
              rw [hex hhd]
              intro x hx0
              cases hx0
            intro T hT X
            obtain ⟨a1, a2, a3, a4, a5⟩ := X.athrowLeaves hx (g := F0 m pc ls (aVs ad unk (.ref q :: r0))) rfl rfl rfl hout (a := ad q) (rest := aVs ad unk r0) rfl (by rw [hb]; exact hdg) hlk
            refine ⟨_, a1, _, locs, a2, a3, a4, a5, hlocs, ?_, rfl⟩
            show aRel s0 D cl ad unk K h' (T.setFrames (.throwing (ad q) :: below)).heap
            have : (T.setFrames (.throwing (ad q) :: below)).heap = H := by rw [← hT]; rfl
            rw [this]
            exact hR
          · cases hs
        · cases hs
      · cases hs
    · -- it calls
      rename_i k as rest hs
      split at hr
      · rename_i d' M' hP'
        split at hr
        · rename_i hcat
          have hM'P : M' ∈ P := List.mem_of_getElem? hP'
          -- the callee's run
          obtain ⟨res1, hr1⟩ : ∃ res1, aRun cl K P n M' d' 0 (lv_args 0 as) [] h = some res1 := by
            split at hr
            · cases hr
            · rename_i h1
              exact ⟨_, h1⟩
            · rename_i h1
              exact ⟨_, h1⟩
          have hm1 := aRun_mono _ _ _ _ _ _ _ _ hr1
          have hm2 : res1.2.length ≤ res.2.length ∧ aSzs cl res1.2 ≤ aSzs cl res.2 := by
            rw [hr1] at hr
            split at hr
            · rename_i hh; cases hh
            · rename_i hh
              cases hh
              exact aRun_mono _ _ _ _ _ _ _ _ hr
            · rename_i hh
              cases hh
              split at hr
              · cases hr
                exact ⟨Nat.le_refl _, Nat.le_refl _⟩
              · split at hr
                · split at hr
                  · exact aRun_mono _ _ _ _ _ _ _ _ hr
                  · cases hr
                · cases hr
          intro T hT X
          -- the door
          have hdoor : ∃ (I' : Instr), decode c.code pc = .ok (I', 3) ∧ aDoor p l e R s m args below meth c T locs cells slots (F0 m pc ls (aVs ad unk st)) (aVs ad unk rest) (aVs ad unk as) M'.nm := by
            obtain ⟨hM1, -⟩ := hall M' hM'P
            rcases aStep_call hs with ⟨i, rfl, ha, rfl⟩ | ⟨i, q, as', vs, rfl, rfl, ha, rfl, h0⟩ | ⟨i, q, as', rfl, rfl, ha, hk⟩
            · obtain ⟨M2, e1, w1, w2, w3, w4⟩ := hik
              cases hP'.symm.trans e1
              obtain ⟨ha1, ha2⟩ := aArgs_ok _ ha
              have hlen := aFind_sw hlen (fun _ _ z => by cases z) (fun _ _ _ _ z => by cases z)
              have hlen : len = 3 := hlen
              subst hlen
              refine ⟨_, by rw [hb]; exact hdg, aDoor_S X hx hown hM1 (by rw [List.length_map, ha1]; exact w1) w2 w3 w4 rfl ?_ (by rw [hb]; exact hdg)⟩
              show aVs ad unk st = _
              rw [ha2, aVs, List.map_append, List.map_reverse]
            · obtain ⟨M2, r, n0, e1, e2, e3, w1, w2, w3, w4⟩ := hik
              cases hP'.symm.trans e1
              obtain ⟨ha1, ha2⟩ := aArgs_ok _ ha
              have hlen := aFind_sw hlen (fun _ _ z => by cases z) (fun _ _ _ _ z => by cases z)
              have hlen : len = 3 := hlen
              subst hlen
              obtain ⟨cell, g1, g2, g3, g4, g5, g6⟩ := aObj_of hR h0 e2
              have hKn := hK _ _ e2
              have hl1 : as'.length = n0 := by rw [e3] at ha1; simpa using ha1
              refine ⟨_, by rw [hb]; exact hdg, aDoor_V X hx hown hM1 (as := aVs ad unk as') (rest := aVs ad unk rest) (b := ad q) (by rw [List.length_map, hl1]; exact w1) w2 w3 w4 (by rw [hT]; exact g1) g3 (by rw [g5]; exact hKn.2.1) rfl ?_ (by rw [hb]; exact hdg)⟩
              show aVs ad unk st = _
              rw [ha2, aVs, List.map_append, List.map_reverse, List.map_cons, List.reverse_cons, List.append_assoc]
              rfl
            · rcases hik with ⟨e0, -⟩ | ⟨e0, -⟩ | ⟨k0, M2, n0, e0, e1, e3, w1, w2, w3, w4, w5⟩
              · rw [hk] at e0
                cases e0
              · rw [hk] at e0
                cases e0
              · have hkk : k0 = k := by omega
                subst hkk
                cases hP'.symm.trans e1
                obtain ⟨ha1, ha2⟩ := aArgs_ok _ ha
                have hlen := aFind_sw hlen (fun _ _ z => by cases z) (fun _ _ _ _ z => by cases z)
                have hlen : len = 3 := hlen
                subst hlen
                have hl1 : as'.length = n0 := by rw [e3] at ha1; simpa using ha1
                refine ⟨_, by rw [hb]; exact hdg, aDoor_I X hx hown (as := aVs ad unk as') (rest := aVs ad unk rest) (b := ad q) (by rw [List.length_map, hl1]; exact w1) w2 w3 w4 w5 rfl ?_ (by rw [hb]; exact hdg)⟩
                show aVs ad unk st = _
                rw [ha2, aVs, List.map_append, List.map_reverse, List.map_cons, List.reverse_cons, List.append_assoc]
                rfl
          obtain ⟨I', hdg3, vm₁, mk, X₁, hn, hstep⟩ := hdoor
          have hWU : s0.WarmedH (T.setVm vm₁).vm := State.WarmedH.trans hW X₁.warmed
          have hMU := ((HE _ hWU).2.2 M' hM'P).1
          have hnU : (T.setVm vm₁).methodNamed? M'.nm = some mk := X₁.named hn
          have hTU : (T.setVm vm₁).heap = H := hT
          have hstU : ∀ (q : Nat) (cell : Cell), ad K ≤ q → ((T.setVm vm₁).calling (F0 m pc ls (aVs ad unk rest)) mk (aVs ad unk as).toArray).heap[q]? = some cell → cell.vm.isStatics = false := by
            intro q cell hq hc
            have hc : H[q]? = some cell := by rw [← hTU]; exact hc
            exact aRel.nost hA hR hq hc
          obtain ⟨T', L, X', hL, hR1, hret, hthr⟩ := aEnter (s0 := s0) (D := D) (cl := cl) (ad := ad) (unk := unk) (K := K) X₁ (g := F0 m pc ls (aVs ad unk rest)) rfl (by rw [hl.1, hml]) hdg3 (M' := M') hnU hMU (as := aVs ad unk as)
            (R' := { frames := d' + 6, cells := res1.2.length - h.length, slots := aSzs cl res1.2 - aSzs cl h, locals := 100 * d' + 100 }) (by show d' + 6 + 1 ≤ R.frames; omega)
            (by
              have := aCat_vs (ad := ad) hu rest
              show 2 * 0 + ((aVs ad unk rest).map fun v => v.category).sum + (M'.nl + 11) + (100 * d' + 100) ≤ R.locals
              omega)
            (by show cells + (res1.2.length - h.length) ≤ R.cells; omega) (by show slots + (aSzs cl res1.2 - aSzs cl h) ≤ R.slots; omega) (k := 0 + (res1.2.length - h.length)) (n := 0 + (aSzs cl res1.2 - aSzs cl h)) (res := res1)
            (by
              intro methk ck b1 b2 b3 b4 b5 b6 b7
              rw [lg_entry_eq]
              have hle := lv_entry (aVs ad unk as) (n := M'.nl) (by rw [a_slN hu]; omega)
              rw [aLs_args hu] at hle
              exact IH M' d' 0 (lv_args 0 as) [] h res1 hM'P hr1 p l e _ _ mk _ _ methk ck _ [] 0 0 _ hx htr hstU hWU hnU b1 b2 b3 b4 b6 b5 (Nat.le_refl _) (Nat.le_refl _) (by rw [hTU]; exact hR) hle (fun q hq => by cases hq) (by simp) (by simp))
          rw [Nat.zero_add, Nat.zero_add] at X'
          have hlocs' : ∀ q ∈ locs ++ L, ad K ≤ q.base := fun q hq => (List.mem_append.mp hq).elim (hlocs q) (hL q)
          have fin : ∀ (pc2 : Nat) (st2 : List Value), aRun cl K P n M (d' + 1) pc2 lc st2 res1.2 = some res →
              ∃ t, Steps p.tables e below (T'.setTop (F0 m pc2 ls (aVs ad unk st2))) t ∧ aEnd below s s0 D cl ad unk K (cells + (res.2.length - h.length)) (slots + (aSzs cl res.2 - aSzs cl h)) res t := by
            intro pc2 st2 hr2
            have := IH M (d' + 1) pc2 lc st2 res1.2 res hMP hr2 p l e R s m args below meth c T'.heap (locs ++ L) (cells + (res1.2.length - h.length)) (slots + (aSzs cl res1.2 - aSzs cl h)) ls
              hx htr hsts hW hnm hb hml hrt hlk hname hex hRf hRl hR1 hl hlocs' (by omega) (by omega)
            rw [show cells + (res1.2.length - h.length) + (res.2.length - res1.2.length) = cells + (res.2.length - h.length) by omega, show slots + (aSzs cl res1.2 - aSzs cl h) + (aSzs cl res.2 - aSzs cl res1.2) = slots + (aSzs cl res.2 - aSzs cl h) by omega] at this
            exact this T' rfl X'
          rw [hr1] at hr
          obtain ⟨o1, h1⟩ := res1
          cases o1 with
          | inl v =>
            have hr : aRun cl K P n M (d' + 1) (pc + 3) lc (v.toList ++ rest) h1 = some res := hr
            obtain ⟨t, b1, b2⟩ := fin _ _ hr
            refine ⟨t, hstep _ fun acts => hret v rfl t ?_ acts, b2⟩
            have e9 : (v.map (aV ad unk)).toList ++ aVs ad unk rest = aVs ad unk (v.toList ++ rest) := by cases v <;> rfl
            show Steps p.tables e below (T'.setTop (F0 m (pc + 3) ls ((v.map (aV ad unk)).toList ++ aVs ad unk rest))) t
            rw [e9]
            exact b1
          | inr q =>
            dsimp only at hr
            split at hr
            · rename_i hhd
              cases hr
              have hout : ∀ x ∈ c.exceptionTable.toList, covers x (F0 m pc ls (aVs ad unk rest)).pc = false := by
                rw [hex hhd]
                intro x hx0
                cases hx0
              obtain ⟨a1, a2, a3, a4, a5⟩ := X'.leaveThrown (ad q) (g := F0 m pc ls (aVs ad unk rest)) rfl rfl rfl hout hlk
              refine ⟨_, hstep _ fun acts => hthr q rfl _ a1 acts, _, locs ++ L, a2, a3, a4, a5, hlocs', ?_, rfl⟩
              show aRel s0 D cl ad unk K h1 (T'.setFrames (.throwing (ad q) :: below)).heap
              exact hR1
            · rename_i hhd
              split at hr
              · rename_i kd vs h0
                split at hr
                · rename_i t0 hha
                  obtain ⟨k9, rfl⟩ := aHand_kd hha
                  obtain ⟨cell, g1, g2, g3, g4, g5⟩ := hR1.2.2.2 q _ h0
                  have hcls : cell.cls = D.1 k9 := by
                    rcases g5 with ⟨z, -⟩ | ⟨j, r', e1, -, e3, -⟩ | ⟨j, r', kC, e1, -⟩
                    · exfalso
                      have z : 2 * k9 + 8 < 8 := z
                      omega
                    · have e1 : 2 * k9 + 8 = 2 * j + 8 := e1
                      rw [e3, show j = k9 by omega]
                    · exfalso
                      have e1 : 2 * k9 + 8 = 2 * j + 9 := e1
                      omega
                  obtain ⟨vm2, X2, hst2⟩ := HC M hMP hhd X' hx hW hnm (g := F0 m pc ls (aVs ad unk rest)) rfl g1 hcls g3 hha
                  have := IH M (d' + 1) t0 lc [.ref q] h1 res hMP hr p l e R s m args below meth c T'.heap (locs ++ L) (cells + (h1.length - h.length)) (slots + (aSzs cl h1 - aSzs cl h)) ls
                    hx htr hsts hW hnm hb hml hrt hlk hname hex hRf hRl hR1 hl hlocs' (by simp only at hm1 hm2; omega) (by simp only at hm1 hm2; omega)
                  rw [a_arith (c := cells) hm1.1 hm2.1, a_arith (c := slots) hm1.2 hm2.2] at this
                  obtain ⟨t, b1, b2⟩ := this (T'.setVm vm2) rfl X2
                  exact ⟨t, hstep _ fun acts => hthr q rfl t (hst2 _ b1) acts, b2⟩
                · cases hr
              · cases hr
        · cases hr
      · cases hr
end
section
theorem i_vc : Claimed_1_1 ∧ Claimed_1_2 := sorry
end
