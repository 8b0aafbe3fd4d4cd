section
-- ===== PART A: goes FIRST, ahead of the names: the tables' words, and 'selects' of the private methods out of them =====
/-- a private method of a class that the tables say can be made, by its rows of tables_1 -/
def lw_okq (q : MethodName × Nat) : Prop := (q.1.cls ≠ "java/lang/invoke/MethodHandle" ∧ q.1.cls ≠ "java/lang/invoke/VarHandle") ∧ Cond.instantiable q.1.cls q.2 ∈ tables_1 ∧ Cond.privateMethod q.1 ∈ tables_1 ∧ Cond.instanceMethod q.1 ∈ tables_1
theorem lw_p0 : lw_okq (⟨"java/lang/Throwable", "fillInStackTrace", "(I)Ljava/lang/Throwable;"⟩, 6) := ⟨⟨by decide +kernel, by decide +kernel⟩, List.mem_of_getElem? (i := 317) (by decide +kernel), List.mem_of_getElem? (i := 315) (by decide +kernel), List.mem_of_getElem? (i := 316) (by decide +kernel)⟩
theorem lw_p1 : lw_okq (⟨"StackForge$Function", "addVariables", "(I)V"⟩, 8) := ⟨⟨by decide +kernel, by decide +kernel⟩, List.mem_of_getElem? (i := 30) (by decide +kernel), List.mem_of_getElem? (i := 361) (by decide +kernel), List.mem_of_getElem? (i := 362) (by decide +kernel)⟩
theorem lw_p2 : lw_okq (⟨"StackForge$Function", "addVariable", "(I)V"⟩, 8) := ⟨⟨by decide +kernel, by decide +kernel⟩, List.mem_of_getElem? (i := 30) (by decide +kernel), List.mem_of_getElem? (i := 365) (by decide +kernel), List.mem_of_getElem? (i := 366) (by decide +kernel)⟩
theorem lw_p3 : lw_okq (⟨"StackForge$Checker", "beginFrame", "(III)V"⟩, 8) := ⟨⟨by decide +kernel, by decide +kernel⟩, List.mem_of_getElem? (i := 62) (by decide +kernel), List.mem_of_getElem? (i := 427) (by decide +kernel), List.mem_of_getElem? (i := 428) (by decide +kernel)⟩
theorem lw_p4 : lw_okq (⟨"StackForge$Checker", "goOver", "(I)V"⟩, 8) := ⟨⟨by decide +kernel, by decide +kernel⟩, List.mem_of_getElem? (i := 62) (by decide +kernel), List.mem_of_getElem? (i := 457) (by decide +kernel), List.mem_of_getElem? (i := 458) (by decide +kernel)⟩
theorem lw_p5 : lw_okq (⟨"StackForge$Checker", "goOverFrames", "(III)V"⟩, 8) := ⟨⟨by decide +kernel, by decide +kernel⟩, List.mem_of_getElem? (i := 62) (by decide +kernel), List.mem_of_getElem? (i := 462) (by decide +kernel), List.mem_of_getElem? (i := 463) (by decide +kernel)⟩
theorem lw_p6 : lw_okq (⟨"StackForge$Checker", "die", "()V"⟩, 8) := ⟨⟨by decide +kernel, by decide +kernel⟩, List.mem_of_getElem? (i := 62) (by decide +kernel), List.mem_of_getElem? (i := 466) (by decide +kernel), List.mem_of_getElem? (i := 467) (by decide +kernel)⟩
theorem lw_p7 : lw_okq (⟨"StackForge$Checker", "take", "(I)I"⟩, 8) := ⟨⟨by decide +kernel, by decide +kernel⟩, List.mem_of_getElem? (i := 62) (by decide +kernel), List.mem_of_getElem? (i := 470) (by decide +kernel), List.mem_of_getElem? (i := 471) (by decide +kernel)⟩
theorem lw_p8 : lw_okq (⟨"StackForge$Checker", "turnToElse", "(I)V"⟩, 8) := ⟨⟨by decide +kernel, by decide +kernel⟩, List.mem_of_getElem? (i := 62) (by decide +kernel), List.mem_of_getElem? (i := 474) (by decide +kernel), List.mem_of_getElem? (i := 475) (by decide +kernel)⟩
theorem lw_p9 : lw_okq (⟨"StackForge$Checker", "takeAllOfFrame", "()V"⟩, 8) := ⟨⟨by decide +kernel, by decide +kernel⟩, List.mem_of_getElem? (i := 62) (by decide +kernel), List.mem_of_getElem? (i := 482) (by decide +kernel), List.mem_of_getElem? (i := 483) (by decide +kernel)⟩
theorem lw_p10 : lw_okq (⟨"StackForge$Checker", "endFrame", "(I)V"⟩, 8) := ⟨⟨by decide +kernel, by decide +kernel⟩, List.mem_of_getElem? (i := 62) (by decide +kernel), List.mem_of_getElem? (i := 486) (by decide +kernel), List.mem_of_getElem? (i := 487) (by decide +kernel)⟩
theorem lw_p11 : lw_okq (⟨"StackForge$Checker", "put", "(I)V"⟩, 8) := ⟨⟨by decide +kernel, by decide +kernel⟩, List.mem_of_getElem? (i := 62) (by decide +kernel), List.mem_of_getElem? (i := 490) (by decide +kernel), List.mem_of_getElem? (i := 491) (by decide +kernel)⟩
theorem lw_p12 : lw_okq (⟨"StackForge$Checker", "goOverJumps", "(III)V"⟩, 8) := ⟨⟨by decide +kernel, by decide +kernel⟩, List.mem_of_getElem? (i := 62) (by decide +kernel), List.mem_of_getElem? (i := 498) (by decide +kernel), List.mem_of_getElem? (i := 499) (by decide +kernel)⟩
theorem lw_p13 : lw_okq (⟨"StackForge$Checker", "kindOfJump", "(I)I"⟩, 8) := ⟨⟨by decide +kernel, by decide +kernel⟩, List.mem_of_getElem? (i := 62) (by decide +kernel), List.mem_of_getElem? (i := 502) (by decide +kernel), List.mem_of_getElem? (i := 503) (by decide +kernel)⟩
theorem lw_p14 : lw_okq (⟨"StackForge$Checker", "kindOfJumps", "(II)I"⟩, 8) := ⟨⟨by decide +kernel, by decide +kernel⟩, List.mem_of_getElem? (i := 62) (by decide +kernel), List.mem_of_getElem? (i := 510) (by decide +kernel), List.mem_of_getElem? (i := 511) (by decide +kernel)⟩
theorem lw_p15 : lw_okq (⟨"StackForge$Checker", "goOverValues", "(II)V"⟩, 8) := ⟨⟨by decide +kernel, by decide +kernel⟩, List.mem_of_getElem? (i := 62) (by decide +kernel), List.mem_of_getElem? (i := 514) (by decide +kernel), List.mem_of_getElem? (i := 515) (by decide +kernel)⟩
def lw_privs_1 : List (MethodName × Nat) := [(⟨"java/lang/Throwable", "fillInStackTrace", "(I)Ljava/lang/Throwable;"⟩, 6), (⟨"StackForge$Function", "addVariables", "(I)V"⟩, 8), (⟨"StackForge$Function", "addVariable", "(I)V"⟩, 8), (⟨"StackForge$Checker", "beginFrame", "(III)V"⟩, 8), (⟨"StackForge$Checker", "goOver", "(I)V"⟩, 8), (⟨"StackForge$Checker", "goOverFrames", "(III)V"⟩, 8), (⟨"StackForge$Checker", "die", "()V"⟩, 8), (⟨"StackForge$Checker", "take", "(I)I"⟩, 8), (⟨"StackForge$Checker", "turnToElse", "(I)V"⟩, 8), (⟨"StackForge$Checker", "takeAllOfFrame", "()V"⟩, 8), (⟨"StackForge$Checker", "endFrame", "(I)V"⟩, 8), (⟨"StackForge$Checker", "put", "(I)V"⟩, 8), (⟨"StackForge$Checker", "goOverJumps", "(III)V"⟩, 8), (⟨"StackForge$Checker", "kindOfJump", "(I)I"⟩, 8), (⟨"StackForge$Checker", "kindOfJumps", "(II)I"⟩, 8), (⟨"StackForge$Checker", "goOverValues", "(II)V"⟩, 8)]
theorem lw_r1 : ∀ q ∈ lw_privs_1, lw_okq q := List.forall_mem_cons.mpr ⟨lw_p0, List.forall_mem_cons.mpr ⟨lw_p1, List.forall_mem_cons.mpr ⟨lw_p2, List.forall_mem_cons.mpr ⟨lw_p3, List.forall_mem_cons.mpr ⟨lw_p4, List.forall_mem_cons.mpr ⟨lw_p5, List.forall_mem_cons.mpr ⟨lw_p6, List.forall_mem_cons.mpr ⟨lw_p7, List.forall_mem_cons.mpr ⟨lw_p8, List.forall_mem_cons.mpr ⟨lw_p9, List.forall_mem_cons.mpr ⟨lw_p10, List.forall_mem_cons.mpr ⟨lw_p11, List.forall_mem_cons.mpr ⟨lw_p12, List.forall_mem_cons.mpr ⟨lw_p13, List.forall_mem_cons.mpr ⟨lw_p14, List.forall_mem_cons.mpr ⟨lw_p15, fun _ h => absurd h List.not_mem_nil⟩⟩⟩⟩⟩⟩⟩⟩⟩⟩⟩⟩⟩⟩⟩⟩
theorem lw_p16 : lw_okq (⟨"StackForge$Checker", "goOverCall", "(IZ)V"⟩, 8) := ⟨⟨by decide +kernel, by decide +kernel⟩, List.mem_of_getElem? (i := 62) (by decide +kernel), List.mem_of_getElem? (i := 518) (by decide +kernel), List.mem_of_getElem? (i := 519) (by decide +kernel)⟩
theorem lw_p17 : lw_okq (⟨"StackForge$Checker", "goOverSelect", "()V"⟩, 8) := ⟨⟨by decide +kernel, by decide +kernel⟩, List.mem_of_getElem? (i := 62) (by decide +kernel), List.mem_of_getElem? (i := 531) (by decide +kernel), List.mem_of_getElem? (i := 532) (by decide +kernel)⟩
theorem lw_p18 : lw_okq (⟨"StackForge$Checker", "goOverGlobal", "(II)V"⟩, 8) := ⟨⟨by decide +kernel, by decide +kernel⟩, List.mem_of_getElem? (i := 62) (by decide +kernel), List.mem_of_getElem? (i := 535) (by decide +kernel), List.mem_of_getElem? (i := 536) (by decide +kernel)⟩
theorem lw_p19 : lw_okq (⟨"StackForge$Checker", "goOverVariable", "(II)V"⟩, 8) := ⟨⟨by decide +kernel, by decide +kernel⟩, List.mem_of_getElem? (i := 62) (by decide +kernel), List.mem_of_getElem? (i := 539) (by decide +kernel), List.mem_of_getElem? (i := 540) (by decide +kernel)⟩
theorem lw_p20 : lw_okq (⟨"StackForge$Checker", "goOverSignature", "(I)V"⟩, 8) := ⟨⟨by decide +kernel, by decide +kernel⟩, List.mem_of_getElem? (i := 62) (by decide +kernel), List.mem_of_getElem? (i := 544) (by decide +kernel), List.mem_of_getElem? (i := 545) (by decide +kernel)⟩
theorem lw_p21 : lw_okq (⟨"StackForge$Machine", "stepFrames", "(LStackForge$Call;II)I"⟩, 8) := ⟨⟨by decide +kernel, by decide +kernel⟩, List.mem_of_getElem? (i := 124) (by decide +kernel), List.mem_of_getElem? (i := 625) (by decide +kernel), List.mem_of_getElem? (i := 626) (by decide +kernel)⟩
theorem lw_p22 : lw_okq (⟨"StackForge$Machine", "leave", "(LStackForge$Call;)V"⟩, 8) := ⟨⟨by decide +kernel, by decide +kernel⟩, List.mem_of_getElem? (i := 124) (by decide +kernel), List.mem_of_getElem? (i := 674) (by decide +kernel), List.mem_of_getElem? (i := 675) (by decide +kernel)⟩
theorem lw_p23 : lw_okq (⟨"StackForge$Cells", "put", "(JD)V"⟩, 3) := ⟨⟨by decide +kernel, by decide +kernel⟩, List.mem_of_getElem? (i := 142) (by decide +kernel), List.mem_of_getElem? (i := 689) (by decide +kernel), List.mem_of_getElem? (i := 690) (by decide +kernel)⟩
theorem lw_p24 : lw_okq (⟨"StackForge$Machine", "stepJumps", "(LStackForge$Call;III)I"⟩, 8) := ⟨⟨by decide +kernel, by decide +kernel⟩, List.mem_of_getElem? (i := 124) (by decide +kernel), List.mem_of_getElem? (i := 693) (by decide +kernel), List.mem_of_getElem? (i := 694) (by decide +kernel)⟩
theorem lw_p25 : lw_okq (⟨"StackForge$Machine", "jump", "(LStackForge$Call;I)V"⟩, 8) := ⟨⟨by decide +kernel, by decide +kernel⟩, List.mem_of_getElem? (i := 124) (by decide +kernel), List.mem_of_getElem? (i := 697) (by decide +kernel), List.mem_of_getElem? (i := 698) (by decide +kernel)⟩
theorem lw_p26 : lw_okq (⟨"StackForge$Machine", "chosenJump", "(LStackForge$Call;II)I"⟩, 8) := ⟨⟨by decide +kernel, by decide +kernel⟩, List.mem_of_getElem? (i := 124) (by decide +kernel), List.mem_of_getElem? (i := 712) (by decide +kernel), List.mem_of_getElem? (i := 713) (by decide +kernel)⟩
theorem lw_p27 : lw_okq (⟨"StackForge$Machine", "stepCalls", "(LStackForge$Call;II)I"⟩, 8) := ⟨⟨by decide +kernel, by decide +kernel⟩, List.mem_of_getElem? (i := 124) (by decide +kernel), List.mem_of_getElem? (i := 716) (by decide +kernel), List.mem_of_getElem? (i := 717) (by decide +kernel)⟩
theorem lw_p28 : lw_okq (⟨"StackForge$Machine", "enter", "(LStackForge$Call;LStackForge$Function;)I"⟩, 8) := ⟨⟨by decide +kernel, by decide +kernel⟩, List.mem_of_getElem? (i := 124) (by decide +kernel), List.mem_of_getElem? (i := 721) (by decide +kernel), List.mem_of_getElem? (i := 722) (by decide +kernel)⟩
theorem lw_p29 : lw_okq (⟨"StackForge$Machine", "stepValues", "(LStackForge$Call;II)I"⟩, 8) := ⟨⟨by decide +kernel, by decide +kernel⟩, List.mem_of_getElem? (i := 124) (by decide +kernel), List.mem_of_getElem? (i := 737) (by decide +kernel), List.mem_of_getElem? (i := 738) (by decide +kernel)⟩
theorem lw_p30 : lw_okq (⟨"StackForge$Machine", "select", "(LStackForge$Cells;)V"⟩, 8) := ⟨⟨by decide +kernel, by decide +kernel⟩, List.mem_of_getElem? (i := 124) (by decide +kernel), List.mem_of_getElem? (i := 742) (by decide +kernel), List.mem_of_getElem? (i := 743) (by decide +kernel)⟩
theorem lw_p31 : lw_okq (⟨"StackForge$Machine", "stepNumbers", "(LStackForge$Cells;II)I"⟩, 8) := ⟨⟨by decide +kernel, by decide +kernel⟩, List.mem_of_getElem? (i := 124) (by decide +kernel), List.mem_of_getElem? (i := 755) (by decide +kernel), List.mem_of_getElem? (i := 756) (by decide +kernel)⟩
def lw_privs_2 : List (MethodName × Nat) := [(⟨"StackForge$Checker", "goOverCall", "(IZ)V"⟩, 8), (⟨"StackForge$Checker", "goOverSelect", "()V"⟩, 8), (⟨"StackForge$Checker", "goOverGlobal", "(II)V"⟩, 8), (⟨"StackForge$Checker", "goOverVariable", "(II)V"⟩, 8), (⟨"StackForge$Checker", "goOverSignature", "(I)V"⟩, 8), (⟨"StackForge$Machine", "stepFrames", "(LStackForge$Call;II)I"⟩, 8), (⟨"StackForge$Machine", "leave", "(LStackForge$Call;)V"⟩, 8), (⟨"StackForge$Cells", "put", "(JD)V"⟩, 3), (⟨"StackForge$Machine", "stepJumps", "(LStackForge$Call;III)I"⟩, 8), (⟨"StackForge$Machine", "jump", "(LStackForge$Call;I)V"⟩, 8), (⟨"StackForge$Machine", "chosenJump", "(LStackForge$Call;II)I"⟩, 8), (⟨"StackForge$Machine", "stepCalls", "(LStackForge$Call;II)I"⟩, 8), (⟨"StackForge$Machine", "enter", "(LStackForge$Call;LStackForge$Function;)I"⟩, 8), (⟨"StackForge$Machine", "stepValues", "(LStackForge$Call;II)I"⟩, 8), (⟨"StackForge$Machine", "select", "(LStackForge$Cells;)V"⟩, 8), (⟨"StackForge$Machine", "stepNumbers", "(LStackForge$Cells;II)I"⟩, 8)]
theorem lw_r2 : ∀ q ∈ lw_privs_2, lw_okq q := List.forall_mem_cons.mpr ⟨lw_p16, List.forall_mem_cons.mpr ⟨lw_p17, List.forall_mem_cons.mpr ⟨lw_p18, List.forall_mem_cons.mpr ⟨lw_p19, List.forall_mem_cons.mpr ⟨lw_p20, List.forall_mem_cons.mpr ⟨lw_p21, List.forall_mem_cons.mpr ⟨lw_p22, List.forall_mem_cons.mpr ⟨lw_p23, List.forall_mem_cons.mpr ⟨lw_p24, List.forall_mem_cons.mpr ⟨lw_p25, List.forall_mem_cons.mpr ⟨lw_p26, List.forall_mem_cons.mpr ⟨lw_p27, List.forall_mem_cons.mpr ⟨lw_p28, List.forall_mem_cons.mpr ⟨lw_p29, List.forall_mem_cons.mpr ⟨lw_p30, List.forall_mem_cons.mpr ⟨lw_p31, fun _ h => absurd h List.not_mem_nil⟩⟩⟩⟩⟩⟩⟩⟩⟩⟩⟩⟩⟩⟩⟩⟩
theorem lw_p32 : lw_okq (⟨"StackForge$Machine", "stepMemory", "(LStackForge$Cells;II)I"⟩, 8) := ⟨⟨by decide +kernel, by decide +kernel⟩, List.mem_of_getElem? (i := 124) (by decide +kernel), List.mem_of_getElem? (i := 759) (by decide +kernel), List.mem_of_getElem? (i := 760) (by decide +kernel)⟩
theorem lw_p33 : lw_okq (⟨"StackForge", "phaseAfter", "(I)I"⟩, 10) := ⟨⟨by decide +kernel, by decide +kernel⟩, List.mem_of_getElem? (i := 21) (by decide +kernel), List.mem_of_getElem? (i := 821) (by decide +kernel), List.mem_of_getElem? (i := 822) (by decide +kernel)⟩
theorem lw_p34 : lw_okq (⟨"StackForgeModel", "good", "(ZI)Z"⟩, 41) := ⟨⟨by decide +kernel, by decide +kernel⟩, List.mem_of_getElem? (i := 944) (by decide +kernel), List.mem_of_getElem? (i := 1089) (by decide +kernel), List.mem_of_getElem? (i := 1090) (by decide +kernel)⟩
theorem lw_p35 : lw_okq (⟨"StackForgeModel", "setKinds", "(IIII)V"⟩, 41) := ⟨⟨by decide +kernel, by decide +kernel⟩, List.mem_of_getElem? (i := 944) (by decide +kernel), List.mem_of_getElem? (i := 1093) (by decide +kernel), List.mem_of_getElem? (i := 1094) (by decide +kernel)⟩
theorem lw_p36 : lw_okq (⟨"StackForgeModel", "find", "(I)I"⟩, 41) := ⟨⟨by decide +kernel, by decide +kernel⟩, List.mem_of_getElem? (i := 944) (by decide +kernel), List.mem_of_getElem? (i := 1109) (by decide +kernel), List.mem_of_getElem? (i := 1110) (by decide +kernel)⟩
theorem lw_p37 : lw_okq (⟨"StackForgeModel", "begin", "(II)V"⟩, 41) := ⟨⟨by decide +kernel, by decide +kernel⟩, List.mem_of_getElem? (i := 944) (by decide +kernel), List.mem_of_getElem? (i := 1113) (by decide +kernel), List.mem_of_getElem? (i := 1114) (by decide +kernel)⟩
theorem lw_p38 : lw_okq (⟨"StackForgeModel", "take", "(I)V"⟩, 41) := ⟨⟨by decide +kernel, by decide +kernel⟩, List.mem_of_getElem? (i := 944) (by decide +kernel), List.mem_of_getElem? (i := 1117) (by decide +kernel), List.mem_of_getElem? (i := 1118) (by decide +kernel)⟩
theorem lw_p39 : lw_okq (⟨"StackForgeModel", "takeAny", "()I"⟩, 41) := ⟨⟨by decide +kernel, by decide +kernel⟩, List.mem_of_getElem? (i := 944) (by decide +kernel), List.mem_of_getElem? (i := 1121) (by decide +kernel), List.mem_of_getElem? (i := 1122) (by decide +kernel)⟩
theorem lw_p40 : lw_okq (⟨"StackForgeModel", "byteAt", "(II)I"⟩, 41) := ⟨⟨by decide +kernel, by decide +kernel⟩, List.mem_of_getElem? (i := 944) (by decide +kernel), List.mem_of_getElem? (i := 1125) (by decide +kernel), List.mem_of_getElem? (i := 1126) (by decide +kernel)⟩
theorem lw_p41 : lw_okq (⟨"StackForgeModel", "behind", "(II)I"⟩, 41) := ⟨⟨by decide +kernel, by decide +kernel⟩, List.mem_of_getElem? (i := 944) (by decide +kernel), List.mem_of_getElem? (i := 1132) (by decide +kernel), List.mem_of_getElem? (i := 1133) (by decide +kernel)⟩
theorem lw_p42 : lw_okq (⟨"StackForgeModel", "checkOne", "(II)V"⟩, 41) := ⟨⟨by decide +kernel, by decide +kernel⟩, List.mem_of_getElem? (i := 944) (by decide +kernel), List.mem_of_getElem? (i := 1136) (by decide +kernel), List.mem_of_getElem? (i := 1137) (by decide +kernel)⟩
theorem lw_p43 : lw_okq (⟨"StackForgeModel", "die", "()V"⟩, 41) := ⟨⟨by decide +kernel, by decide +kernel⟩, List.mem_of_getElem? (i := 944) (by decide +kernel), List.mem_of_getElem? (i := 1140) (by decide +kernel), List.mem_of_getElem? (i := 1141) (by decide +kernel)⟩
theorem lw_p44 : lw_okq (⟨"StackForgeModel", "close", "(I)V"⟩, 41) := ⟨⟨by decide +kernel, by decide +kernel⟩, List.mem_of_getElem? (i := 944) (by decide +kernel), List.mem_of_getElem? (i := 1144) (by decide +kernel), List.mem_of_getElem? (i := 1145) (by decide +kernel)⟩
theorem lw_p45 : lw_okq (⟨"StackForgeModel", "takeIf", "(I)V"⟩, 41) := ⟨⟨by decide +kernel, by decide +kernel⟩, List.mem_of_getElem? (i := 944) (by decide +kernel), List.mem_of_getElem? (i := 1148) (by decide +kernel), List.mem_of_getElem? (i := 1149) (by decide +kernel)⟩
theorem lw_p46 : lw_okq (⟨"StackForgeModel", "putIf", "(I)V"⟩, 41) := ⟨⟨by decide +kernel, by decide +kernel⟩, List.mem_of_getElem? (i := 944) (by decide +kernel), List.mem_of_getElem? (i := 1152) (by decide +kernel), List.mem_of_getElem? (i := 1153) (by decide +kernel)⟩
theorem lw_p47 : lw_okq (⟨"StackForgeModel", "put", "(I)V"⟩, 41) := ⟨⟨by decide +kernel, by decide +kernel⟩, List.mem_of_getElem? (i := 944) (by decide +kernel), List.mem_of_getElem? (i := 1156) (by decide +kernel), List.mem_of_getElem? (i := 1157) (by decide +kernel)⟩
def lw_privs_3 : List (MethodName × Nat) := [(⟨"StackForge$Machine", "stepMemory", "(LStackForge$Cells;II)I"⟩, 8), (⟨"StackForge", "phaseAfter", "(I)I"⟩, 10), (⟨"StackForgeModel", "good", "(ZI)Z"⟩, 41), (⟨"StackForgeModel", "setKinds", "(IIII)V"⟩, 41), (⟨"StackForgeModel", "find", "(I)I"⟩, 41), (⟨"StackForgeModel", "begin", "(II)V"⟩, 41), (⟨"StackForgeModel", "take", "(I)V"⟩, 41), (⟨"StackForgeModel", "takeAny", "()I"⟩, 41), (⟨"StackForgeModel", "byteAt", "(II)I"⟩, 41), (⟨"StackForgeModel", "behind", "(II)I"⟩, 41), (⟨"StackForgeModel", "checkOne", "(II)V"⟩, 41), (⟨"StackForgeModel", "die", "()V"⟩, 41), (⟨"StackForgeModel", "close", "(I)V"⟩, 41), (⟨"StackForgeModel", "takeIf", "(I)V"⟩, 41), (⟨"StackForgeModel", "putIf", "(I)V"⟩, 41), (⟨"StackForgeModel", "put", "(I)V"⟩, 41)]
theorem lw_r3 : ∀ q ∈ lw_privs_3, lw_okq q := List.forall_mem_cons.mpr ⟨lw_p32, List.forall_mem_cons.mpr ⟨lw_p33, List.forall_mem_cons.mpr ⟨lw_p34, List.forall_mem_cons.mpr ⟨lw_p35, List.forall_mem_cons.mpr ⟨lw_p36, List.forall_mem_cons.mpr ⟨lw_p37, List.forall_mem_cons.mpr ⟨lw_p38, List.forall_mem_cons.mpr ⟨lw_p39, List.forall_mem_cons.mpr ⟨lw_p40, List.forall_mem_cons.mpr ⟨lw_p41, List.forall_mem_cons.mpr ⟨lw_p42, List.forall_mem_cons.mpr ⟨lw_p43, List.forall_mem_cons.mpr ⟨lw_p44, List.forall_mem_cons.mpr ⟨lw_p45, List.forall_mem_cons.mpr ⟨lw_p46, List.forall_mem_cons.mpr ⟨lw_p47, fun _ h => absurd h List.not_mem_nil⟩⟩⟩⟩⟩⟩⟩⟩⟩⟩⟩⟩⟩⟩⟩⟩
theorem lw_p48 : lw_okq (⟨"StackForgeModel", "checkJump", "(III)V"⟩, 41) := ⟨⟨by decide +kernel, by decide +kernel⟩, List.mem_of_getElem? (i := 944) (by decide +kernel), List.mem_of_getElem? (i := 1160) (by decide +kernel), List.mem_of_getElem? (i := 1161) (by decide +kernel)⟩
theorem lw_p49 : lw_okq (⟨"StackForgeModel", "label", "(I)I"⟩, 41) := ⟨⟨by decide +kernel, by decide +kernel⟩, List.mem_of_getElem? (i := 944) (by decide +kernel), List.mem_of_getElem? (i := 1164) (by decide +kernel), List.mem_of_getElem? (i := 1165) (by decide +kernel)⟩
theorem lw_p50 : lw_okq (⟨"StackForgeModel", "checkCall", "(II)V"⟩, 41) := ⟨⟨by decide +kernel, by decide +kernel⟩, List.mem_of_getElem? (i := 944) (by decide +kernel), List.mem_of_getElem? (i := 1168) (by decide +kernel), List.mem_of_getElem? (i := 1169) (by decide +kernel)⟩
theorem lw_p51 : lw_okq (⟨"StackForgeModel", "checkSelect", "()V"⟩, 41) := ⟨⟨by decide +kernel, by decide +kernel⟩, List.mem_of_getElem? (i := 944) (by decide +kernel), List.mem_of_getElem? (i := 1172) (by decide +kernel), List.mem_of_getElem? (i := 1173) (by decide +kernel)⟩
theorem lw_p52 : lw_okq (⟨"StackForgeModel", "checkVariable", "(III)V"⟩, 41) := ⟨⟨by decide +kernel, by decide +kernel⟩, List.mem_of_getElem? (i := 944) (by decide +kernel), List.mem_of_getElem? (i := 1176) (by decide +kernel), List.mem_of_getElem? (i := 1177) (by decide +kernel)⟩
theorem lw_p53 : lw_okq (⟨"StackForgeModel", "checkPlain", "(I)V"⟩, 41) := ⟨⟨by decide +kernel, by decide +kernel⟩, List.mem_of_getElem? (i := 944) (by decide +kernel), List.mem_of_getElem? (i := 1180) (by decide +kernel), List.mem_of_getElem? (i := 1181) (by decide +kernel)⟩
theorem lw_p54 : lw_okq (⟨"StackForgeModel", "enter", "(II)V"⟩, 41) := ⟨⟨by decide +kernel, by decide +kernel⟩, List.mem_of_getElem? (i := 944) (by decide +kernel), List.mem_of_getElem? (i := 1197) (by decide +kernel), List.mem_of_getElem? (i := 1198) (by decide +kernel)⟩
theorem lw_p55 : lw_okq (⟨"StackForgeModel", "step", "()V"⟩, 41) := ⟨⟨by decide +kernel, by decide +kernel⟩, List.mem_of_getElem? (i := 944) (by decide +kernel), List.mem_of_getElem? (i := 1205) (by decide +kernel), List.mem_of_getElem? (i := 1206) (by decide +kernel)⟩
theorem lw_p56 : lw_okq (⟨"StackForgeModel", "moves", "(III)V"⟩, 41) := ⟨⟨by decide +kernel, by decide +kernel⟩, List.mem_of_getElem? (i := 944) (by decide +kernel), List.mem_of_getElem? (i := 1209) (by decide +kernel), List.mem_of_getElem? (i := 1210) (by decide +kernel)⟩
theorem lw_p57 : lw_okq (⟨"StackForgeModel", "leave", "()V"⟩, 41) := ⟨⟨by decide +kernel, by decide +kernel⟩, List.mem_of_getElem? (i := 944) (by decide +kernel), List.mem_of_getElem? (i := 1213) (by decide +kernel), List.mem_of_getElem? (i := 1214) (by decide +kernel)⟩
theorem lw_p58 : lw_okq (⟨"StackForgeModel", "push", "(JD)V"⟩, 41) := ⟨⟨by decide +kernel, by decide +kernel⟩, List.mem_of_getElem? (i := 944) (by decide +kernel), List.mem_of_getElem? (i := 1217) (by decide +kernel), List.mem_of_getElem? (i := 1218) (by decide +kernel)⟩
theorem lw_p59 : lw_okq (⟨"StackForgeModel", "seek", "(IIZ)I"⟩, 41) := ⟨⟨by decide +kernel, by decide +kernel⟩, List.mem_of_getElem? (i := 944) (by decide +kernel), List.mem_of_getElem? (i := 1221) (by decide +kernel), List.mem_of_getElem? (i := 1222) (by decide +kernel)⟩
theorem lw_p60 : lw_okq (⟨"StackForgeModel", "block", "(III)V"⟩, 41) := ⟨⟨by decide +kernel, by decide +kernel⟩, List.mem_of_getElem? (i := 944) (by decide +kernel), List.mem_of_getElem? (i := 1225) (by decide +kernel), List.mem_of_getElem? (i := 1226) (by decide +kernel)⟩
theorem lw_p61 : lw_okq (⟨"StackForgeModel", "popInt", "()I"⟩, 41) := ⟨⟨by decide +kernel, by decide +kernel⟩, List.mem_of_getElem? (i := 944) (by decide +kernel), List.mem_of_getElem? (i := 1229) (by decide +kernel), List.mem_of_getElem? (i := 1230) (by decide +kernel)⟩
theorem lw_p62 : lw_okq (⟨"StackForgeModel", "jump", "(I)V"⟩, 41) := ⟨⟨by decide +kernel, by decide +kernel⟩, List.mem_of_getElem? (i := 944) (by decide +kernel), List.mem_of_getElem? (i := 1233) (by decide +kernel), List.mem_of_getElem? (i := 1234) (by decide +kernel)⟩
theorem lw_p63 : lw_okq (⟨"StackForgeModel", "call", "(II)V"⟩, 41) := ⟨⟨by decide +kernel, by decide +kernel⟩, List.mem_of_getElem? (i := 944) (by decide +kernel), List.mem_of_getElem? (i := 1237) (by decide +kernel), List.mem_of_getElem? (i := 1238) (by decide +kernel)⟩
def lw_privs_4 : List (MethodName × Nat) := [(⟨"StackForgeModel", "checkJump", "(III)V"⟩, 41), (⟨"StackForgeModel", "label", "(I)I"⟩, 41), (⟨"StackForgeModel", "checkCall", "(II)V"⟩, 41), (⟨"StackForgeModel", "checkSelect", "()V"⟩, 41), (⟨"StackForgeModel", "checkVariable", "(III)V"⟩, 41), (⟨"StackForgeModel", "checkPlain", "(I)V"⟩, 41), (⟨"StackForgeModel", "enter", "(II)V"⟩, 41), (⟨"StackForgeModel", "step", "()V"⟩, 41), (⟨"StackForgeModel", "moves", "(III)V"⟩, 41), (⟨"StackForgeModel", "leave", "()V"⟩, 41), (⟨"StackForgeModel", "push", "(JD)V"⟩, 41), (⟨"StackForgeModel", "seek", "(IIZ)I"⟩, 41), (⟨"StackForgeModel", "block", "(III)V"⟩, 41), (⟨"StackForgeModel", "popInt", "()I"⟩, 41), (⟨"StackForgeModel", "jump", "(I)V"⟩, 41), (⟨"StackForgeModel", "call", "(II)V"⟩, 41)]
theorem lw_r4 : ∀ q ∈ lw_privs_4, lw_okq q := List.forall_mem_cons.mpr ⟨lw_p48, List.forall_mem_cons.mpr ⟨lw_p49, List.forall_mem_cons.mpr ⟨lw_p50, List.forall_mem_cons.mpr ⟨lw_p51, List.forall_mem_cons.mpr ⟨lw_p52, List.forall_mem_cons.mpr ⟨lw_p53, List.forall_mem_cons.mpr ⟨lw_p54, List.forall_mem_cons.mpr ⟨lw_p55, List.forall_mem_cons.mpr ⟨lw_p56, List.forall_mem_cons.mpr ⟨lw_p57, List.forall_mem_cons.mpr ⟨lw_p58, List.forall_mem_cons.mpr ⟨lw_p59, List.forall_mem_cons.mpr ⟨lw_p60, List.forall_mem_cons.mpr ⟨lw_p61, List.forall_mem_cons.mpr ⟨lw_p62, List.forall_mem_cons.mpr ⟨lw_p63, fun _ h => absurd h List.not_mem_nil⟩⟩⟩⟩⟩⟩⟩⟩⟩⟩⟩⟩⟩⟩⟩⟩
theorem lw_p64 : lw_okq (⟨"StackForgeModel", "agree", "(II)Z"⟩, 41) := ⟨⟨by decide +kernel, by decide +kernel⟩, List.mem_of_getElem? (i := 944) (by decide +kernel), List.mem_of_getElem? (i := 1241) (by decide +kernel), List.mem_of_getElem? (i := 1242) (by decide +kernel)⟩
theorem lw_p65 : lw_okq (⟨"StackForgeModel", "select", "()V"⟩, 41) := ⟨⟨by decide +kernel, by decide +kernel⟩, List.mem_of_getElem? (i := 944) (by decide +kernel), List.mem_of_getElem? (i := 1245) (by decide +kernel), List.mem_of_getElem? (i := 1246) (by decide +kernel)⟩
theorem lw_p66 : lw_okq (⟨"StackForgeModel", "variable", "(II)V"⟩, 41) := ⟨⟨by decide +kernel, by decide +kernel⟩, List.mem_of_getElem? (i := 944) (by decide +kernel), List.mem_of_getElem? (i := 1249) (by decide +kernel), List.mem_of_getElem? (i := 1250) (by decide +kernel)⟩
theorem lw_p67 : lw_okq (⟨"StackForgeModel", "plain", "(II)V"⟩, 41) := ⟨⟨by decide +kernel, by decide +kernel⟩, List.mem_of_getElem? (i := 944) (by decide +kernel), List.mem_of_getElem? (i := 1253) (by decide +kernel), List.mem_of_getElem? (i := 1254) (by decide +kernel)⟩
theorem lw_p68 : lw_okq (⟨"StackForgeModel", "access", "(II)V"⟩, 41) := ⟨⟨by decide +kernel, by decide +kernel⟩, List.mem_of_getElem? (i := 944) (by decide +kernel), List.mem_of_getElem? (i := 1257) (by decide +kernel), List.mem_of_getElem? (i := 1258) (by decide +kernel)⟩
theorem lw_p69 : lw_okq (⟨"StackForgeModel", "turn", "(I)V"⟩, 41) := ⟨⟨by decide +kernel, by decide +kernel⟩, List.mem_of_getElem? (i := 944) (by decide +kernel), List.mem_of_getElem? (i := 1262) (by decide +kernel), List.mem_of_getElem? (i := 1263) (by decide +kernel)⟩
theorem lw_p70 : lw_okq (⟨"StackForgeModel", "calculate", "(II)V"⟩, 41) := ⟨⟨by decide +kernel, by decide +kernel⟩, List.mem_of_getElem? (i := 944) (by decide +kernel), List.mem_of_getElem? (i := 1269) (by decide +kernel), List.mem_of_getElem? (i := 1270) (by decide +kernel)⟩
theorem lw_p71 : lw_okq (⟨"StackForgeModel", "measure", "(I)V"⟩, 41) := ⟨⟨by decide +kernel, by decide +kernel⟩, List.mem_of_getElem? (i := 944) (by decide +kernel), List.mem_of_getElem? (i := 1276) (by decide +kernel), List.mem_of_getElem? (i := 1277) (by decide +kernel)⟩
def lw_privs_5 : List (MethodName × Nat) := [(⟨"StackForgeModel", "agree", "(II)Z"⟩, 41), (⟨"StackForgeModel", "select", "()V"⟩, 41), (⟨"StackForgeModel", "variable", "(II)V"⟩, 41), (⟨"StackForgeModel", "plain", "(II)V"⟩, 41), (⟨"StackForgeModel", "access", "(II)V"⟩, 41), (⟨"StackForgeModel", "turn", "(I)V"⟩, 41), (⟨"StackForgeModel", "calculate", "(II)V"⟩, 41), (⟨"StackForgeModel", "measure", "(I)V"⟩, 41)]
theorem lw_r5 : ∀ q ∈ lw_privs_5, lw_okq q := List.forall_mem_cons.mpr ⟨lw_p64, List.forall_mem_cons.mpr ⟨lw_p65, List.forall_mem_cons.mpr ⟨lw_p66, List.forall_mem_cons.mpr ⟨lw_p67, List.forall_mem_cons.mpr ⟨lw_p68, List.forall_mem_cons.mpr ⟨lw_p69, List.forall_mem_cons.mpr ⟨lw_p70, List.forall_mem_cons.mpr ⟨lw_p71, fun _ h => absurd h List.not_mem_nil⟩⟩⟩⟩⟩⟩⟩⟩
def lw_privs : List (MethodName × Nat) := lw_privs_1 ++ (lw_privs_2 ++ (lw_privs_3 ++ (lw_privs_4 ++ (lw_privs_5))))
def lw_tbl : List Cond := k2_sels lw_privs ++ tables_1
theorem lw_privs_ok : ∀ q ∈ lw_privs, lw_okq q := by
  show ∀ q ∈ lw_privs_1 ++ (lw_privs_2 ++ (lw_privs_3 ++ (lw_privs_4 ++ (lw_privs_5)))), lw_okq q
  exact List.forall_mem_append.mpr ⟨lw_r1, List.forall_mem_append.mpr ⟨lw_r2, List.forall_mem_append.mpr ⟨lw_r3, List.forall_mem_append.mpr ⟨lw_r4, lw_r5⟩⟩⟩⟩
/-! the words that go along from a start to any later state with warmer tables -/
def gw : Cond → Bool
  | .arrayClass _ => true
  | .castable _ _ => true
  | .declares _ => true
  | .arrayOver (.object _) => true
  | w => w.onTables && w.keepsH
def tbl : List Cond := lw_tbl.filter gw
def Tb (U : State) : Prop := ∀ w ∈ tbl, ∀ a : Array Value, w.before a U = true
theorem gw_warm {w : Cond} (hg : gw w = true) {args a' : Array Value} {s U : State} (hW : s.WarmedH U.vm) (h : w.before args s = true) : w.before a' U = true := by
  have key : ∀ w : Cond, w.onTables = true → w.keepsH = true → w.before args s = true → w.before a' U = true := by
    intro w h1 h2 h
    have h3 := Cond.onTables_warmH (args' := a') (T := U) hW h1 h2 h
    exact h3
  cases w with
  | arrayClass ty => exact word_at hW (Or.inr ⟨_, rfl⟩) h
  | castable C T => exact va_Nw.use rfl (va_Nw.warmC hW (va_Nw.of rfl h))
  | declares x => exact va_Nw.use rfl (va_Nw.warmD hW (va_Nw.of rfl h))
  | arrayOver ty =>
    cases ty with
    | object C => exact va_AO.use (A := a') (va_AO.moved hW.alike (va_AO.of h))
    | _ => simp [gw, Cond.onTables] at hg
  | _ => first | (simp only [gw, Bool.and_eq_true] at hg; exact key _ hg.1 hg.2 h)
theorem Tb.warm {s U : State} (h : Tb s) (hW : s.WarmedH U.vm) : Tb U := fun w hw a => gw_warm (List.mem_filter.mp hw).2 hW (h w hw a)
theorem Tb.of {s : State} {args : Array Value} (h : ∀ w ∈ lw_tbl, w.before args s = true) : Tb s := fun w hw a => gw_warm (List.mem_filter.mp hw).2 (State.WarmedH.refl s) (h w (List.mem_filter.mp hw).1)
theorem tb_of (i : Nat) {w : Cond} (h : tables_1[i]? = some w) (hg : gw w = true) : w ∈ tbl := List.mem_filter.mpr ⟨List.mem_append_right _ (List.mem_of_getElem? h), hg⟩
theorem tb_sel (i : Nat) {w : Cond} (h : (k2_sels lw_privs)[i]? = some w) (hg : gw w = true) : w ∈ tbl := List.mem_filter.mpr ⟨List.mem_append_left _ (List.mem_of_getElem? h), hg⟩
theorem tb_all (ws : List Cond) (h : ws.all (fun w => decide (w ∈ tables_1) && gw w) = true) : ∀ w ∈ ws, w ∈ tbl := by
  intro w hw
  have h1 := List.all_eq_true.mp h w hw
  simp only [Bool.and_eq_true, decide_eq_true_eq] at h1
  exact List.mem_filter.mpr ⟨List.mem_append_right _ h1.1, h1.2⟩
end
section
def R0 : String := "StackForge$Call"
def R1 : String := "StackForge$Cells"
def R2 : String := "StackForge$Checker"
def R3 : String := "StackForge$Frame"
def R4 : String := "StackForge$Function"
def R5 : String := "StackForge$Instruction"
def R6 : String := "StackForge$Machine"
def R7 : String := "StackForge$Memory"
def R8 : String := "StackForge"
def R9 : String := "StackForgeModel"
def RL : String := "StackForgeLaw"
def T0 : u_T := fun k => match k with
  | 0 => ("StackForge$Call", "stack", "LStackForge$Cells;", true)
  | 1 => ("StackForge$Call", "variables", "LStackForge$Cells;", true)
  | 2 => ("StackForge$Call", "begins", "[I", true)
  | 3 => ("StackForge$Call", "bases", "[I", true)
  | 4 => ("StackForge$Call", "function", "LStackForge$Function;", false)
  | 5 => ("StackForge$Call", "place", "I", false)
  | _ => ("StackForge$Call", "frames", "I", false)
def ty0 : Nat → FieldType := fun k => match k with
  | 0 => (.object "StackForge$Cells")
  | 1 => (.object "StackForge$Cells")
  | 2 => (.array .int)
  | 3 => (.array .int)
  | 4 => (.object "StackForge$Function")
  | 5 => .int
  | _ => .int
theorem nm0 : ∀ a, a < 7 → ∀ b, b < 7 → a ≠ b → (T0 a).2.1 ≠ (T0 b).2.1 := by decide +kernel
theorem ty0_ok : ∀ k, k < 7 → parseFieldDescriptor (T0 k).2.2.1 = some (ty0 k) := by decide +kernel
theorem in0 : ∀ w ∈ u_ws R0 T0 7, w ∈ tbl := tb_all _ (by decide +kernel)
def T1 : u_T := fun k => match k with
  | 0 => ("StackForge$Cells", "numbers", "[J", true)
  | 1 => ("StackForge$Cells", "reals", "[D", true)
  | _ => ("StackForge$Cells", "height", "I", false)
def ty1 : Nat → FieldType := fun k => match k with
  | 0 => (.array .long)
  | 1 => (.array .double)
  | _ => .int
theorem nm1 : ∀ a, a < 3 → ∀ b, b < 3 → a ≠ b → (T1 a).2.1 ≠ (T1 b).2.1 := by decide +kernel
theorem ty1_ok : ∀ k, k < 3 → parseFieldDescriptor (T1 k).2.2.1 = some (ty1 k) := by decide +kernel
theorem in1 : ∀ w ∈ u_ws R1 T1 3, w ∈ tbl := tb_all _ (by decide +kernel)
def T2 : u_T := fun k => match k with
  | 0 => ("StackForge$Checker", "functions", "[LStackForge$Function;", true)
  | 1 => ("StackForge$Checker", "stack", "[I", true)
  | 2 => ("StackForge$Checker", "rows", "[LStackForge$Frame;", true)
  | 3 => ("StackForge$Checker", "function", "LStackForge$Function;", false)
  | 4 => ("StackForge$Checker", "inner", "LStackForge$Frame;", false)
  | 5 => ("StackForge$Checker", "height", "I", false)
  | 6 => ("StackForge$Checker", "frames", "I", false)
  | _ => ("StackForge$Checker", "bad", "Z", false)
def ty2 : Nat → FieldType := fun k => match k with
  | 0 => (.array (.object "StackForge$Function"))
  | 1 => (.array .int)
  | 2 => (.array (.object "StackForge$Frame"))
  | 3 => (.object "StackForge$Function")
  | 4 => (.object "StackForge$Frame")
  | 5 => .int
  | 6 => .int
  | _ => .boolean
theorem nm2 : ∀ a, a < 8 → ∀ b, b < 8 → a ≠ b → (T2 a).2.1 ≠ (T2 b).2.1 := by decide +kernel
theorem ty2_ok : ∀ k, k < 8 → parseFieldDescriptor (T2 k).2.2.1 = some (ty2 k) := by decide +kernel
theorem in2 : ∀ w ∈ u_ws R2 T2 8, w ∈ tbl := tb_all _ (by decide +kernel)
def T3 : u_T := fun k => match k with
  | 0 => ("StackForge$Frame", "begin", "I", false)
  | 1 => ("StackForge$Frame", "opener", "I", false)
  | 2 => ("StackForge$Frame", "base", "I", false)
  | 3 => ("StackForge$Frame", "outcome", "I", false)
  | 4 => ("StackForge$Frame", "dead", "Z", false)
  | _ => ("StackForge$Frame", "hasElse", "Z", false)
def ty3 : Nat → FieldType := fun k => match k with
  | 0 => .int
  | 1 => .int
  | 2 => .int
  | 3 => .int
  | 4 => .boolean
  | _ => .boolean
theorem nm3 : ∀ a, a < 6 → ∀ b, b < 6 → a ≠ b → (T3 a).2.1 ≠ (T3 b).2.1 := by decide +kernel
theorem ty3_ok : ∀ k, k < 6 → parseFieldDescriptor (T3 k).2.2.1 = some (ty3 k) := by decide +kernel
theorem in3 : ∀ w ∈ u_ws R3 T3 6, w ∈ tbl := tb_all _ (by decide +kernel)
def T4 : u_T := fun k => match k with
  | 0 => ("StackForge$Function", "kinds", "[I", true)
  | 1 => ("StackForge$Function", "bytes", "[I", true)
  | 2 => ("StackForge$Function", "behindElse", "[I", true)
  | 3 => ("StackForge$Function", "behindEnd", "[I", true)
  | 4 => ("StackForge$Function", "parameterCount", "I", false)
  | 5 => ("StackForge$Function", "variableCount", "I", false)
  | 6 => ("StackForge$Function", "outcome", "I", false)
  | _ => ("StackForge$Function", "length", "I", false)
def ty4 : Nat → FieldType := fun k => match k with
  | 0 => (.array .int)
  | 1 => (.array .int)
  | 2 => (.array .int)
  | 3 => (.array .int)
  | 4 => .int
  | 5 => .int
  | 6 => .int
  | _ => .int
theorem nm4 : ∀ a, a < 8 → ∀ b, b < 8 → a ≠ b → (T4 a).2.1 ≠ (T4 b).2.1 := by decide +kernel
theorem ty4_ok : ∀ k, k < 8 → parseFieldDescriptor (T4 k).2.2.1 = some (ty4 k) := by decide +kernel
theorem in4 : ∀ w ∈ u_ws R4 T4 8, w ∈ tbl := tb_all _ (by decide +kernel)
def T5 : u_T := fun k => match k with
  | _ => ("", "", "", false)
def ty5 : Nat → FieldType := fun k => match k with
  | _ => .int
theorem nm5 : ∀ a, a < 0 → ∀ b, b < 0 → a ≠ b → (T5 a).2.1 ≠ (T5 b).2.1 := by decide +kernel
theorem ty5_ok : ∀ k, k < 0 → parseFieldDescriptor (T5 k).2.2.1 = some (ty5 k) := by decide +kernel
theorem in5 : ∀ w ∈ u_ws R5 T5 0, w ∈ tbl := tb_all _ (by decide +kernel)
def T6 : u_T := fun k => match k with
  | 0 => ("StackForge$Machine", "functions", "[LStackForge$Function;", true)
  | 1 => ("StackForge$Machine", "places", "[I", true)
  | 2 => ("StackForge$Machine", "calls", "[LStackForge$Call;", true)
  | 3 => ("StackForge$Machine", "bytes", "LStackForge$Memory;", true)
  | 4 => ("StackForge$Machine", "globals", "LStackForge$Cells;", true)
  | 5 => ("StackForge$Machine", "outcome", "LStackForge$Cells;", true)
  | 6 => ("StackForge$Machine", "outcomeKind", "I", false)
  | _ => ("StackForge$Machine", "depth", "I", false)
def ty6 : Nat → FieldType := fun k => match k with
  | 0 => (.array (.object "StackForge$Function"))
  | 1 => (.array .int)
  | 2 => (.array (.object "StackForge$Call"))
  | 3 => (.object "StackForge$Memory")
  | 4 => (.object "StackForge$Cells")
  | 5 => (.object "StackForge$Cells")
  | 6 => .int
  | _ => .int
theorem nm6 : ∀ a, a < 8 → ∀ b, b < 8 → a ≠ b → (T6 a).2.1 ≠ (T6 b).2.1 := by decide +kernel
theorem ty6_ok : ∀ k, k < 8 → parseFieldDescriptor (T6 k).2.2.1 = some (ty6 k) := by decide +kernel
theorem in6 : ∀ w ∈ u_ws R6 T6 8, w ∈ tbl := tb_all _ (by decide +kernel)
def T7 : u_T := fun k => match k with
  | _ => ("StackForge$Memory", "bytes", "[I", true)
def ty7 : Nat → FieldType := fun k => match k with
  | _ => (.array .int)
theorem nm7 : ∀ a, a < 1 → ∀ b, b < 1 → a ≠ b → (T7 a).2.1 ≠ (T7 b).2.1 := by decide +kernel
theorem ty7_ok : ∀ k, k < 1 → parseFieldDescriptor (T7 k).2.2.1 = some (ty7 k) := by decide +kernel
theorem in7 : ∀ w ∈ u_ws R7 T7 1, w ∈ tbl := tb_all _ (by decide +kernel)
def T8 : u_T := fun k => match k with
  | 0 => ("StackForge", "functions", "[LStackForge$Function;", true)
  | 1 => ("StackForge", "places", "[I", true)
  | 2 => ("StackForge", "arguments", "[I", true)
  | 3 => ("StackForge", "checker", "LStackForge$Checker;", true)
  | 4 => ("StackForge", "machine", "LStackForge$Machine;", true)
  | 5 => ("StackForge", "argumentCount", "I", false)
  | 6 => ("StackForge", "checked", "Z", false)
  | 7 => ("StackForge", "phase", "I", false)
  | 8 => ("StackForge", "steps", "I", false)
  | _ => ("StackForge", "latestTrap", "I", false)
def ty8 : Nat → FieldType := fun k => match k with
  | 0 => (.array (.object "StackForge$Function"))
  | 1 => (.array .int)
  | 2 => (.array .int)
  | 3 => (.object "StackForge$Checker")
  | 4 => (.object "StackForge$Machine")
  | 5 => .int
  | 6 => .boolean
  | 7 => .int
  | 8 => .int
  | _ => .int
theorem nm8 : ∀ a, a < 10 → ∀ b, b < 10 → a ≠ b → (T8 a).2.1 ≠ (T8 b).2.1 := by decide +kernel
theorem ty8_ok : ∀ k, k < 10 → parseFieldDescriptor (T8 k).2.2.1 = some (ty8 k) := by decide +kernel
theorem in8 : ∀ w ∈ u_ws R8 T8 10, w ∈ tbl := tb_all _ (by decide +kernel)
def T9 : u_T := fun k => match k with
  | 0 => ("StackForgeModel", "kinds", "[I", true)
  | 1 => ("StackForgeModel", "parameters", "[I", true)
  | 2 => ("StackForgeModel", "variables", "[I", true)
  | 3 => ("StackForgeModel", "result", "[I", true)
  | 4 => ("StackForgeModel", "codes", "[I", true)
  | 5 => ("StackForgeModel", "length", "[I", true)
  | 6 => ("StackForgeModel", "table", "[I", true)
  | 7 => ("StackForgeModel", "memory", "[I", true)
  | 8 => ("StackForgeModel", "wholes", "[J", true)
  | 9 => ("StackForgeModel", "real", "D", false)
  | 10 => ("StackForgeModel", "arguments", "[I", true)
  | 11 => ("StackForgeModel", "argued", "I", false)
  | 12 => ("StackForgeModel", "checked", "Z", false)
  | 13 => ("StackForgeModel", "kind", "[I", true)
  | 14 => ("StackForgeModel", "height", "I", false)
  | 15 => ("StackForgeModel", "frameOp", "[I", true)
  | 16 => ("StackForgeModel", "frameKind", "[I", true)
  | 17 => ("StackForgeModel", "frameBase", "[I", true)
  | 18 => ("StackForgeModel", "frameDead", "[Z", true)
  | 19 => ("StackForgeModel", "frameElse", "[Z", true)
  | 20 => ("StackForgeModel", "frames", "I", false)
  | 21 => ("StackForgeModel", "bad", "Z", false)
  | 22 => ("StackForgeModel", "whole", "[J", true)
  | 23 => ("StackForgeModel", "reals", "[D", true)
  | 24 => ("StackForgeModel", "frameStart", "[I", true)
  | 25 => ("StackForgeModel", "varWhole", "[J", true)
  | 26 => ("StackForgeModel", "varReal", "[D", true)
  | 27 => ("StackForgeModel", "callFunction", "[I", true)
  | 28 => ("StackForgeModel", "callBack", "[I", true)
  | 29 => ("StackForgeModel", "callFrames", "[I", true)
  | 30 => ("StackForgeModel", "calls", "I", false)
  | 31 => ("StackForgeModel", "at", "I", false)
  | 32 => ("StackForgeModel", "status", "I", false)
  | 33 => ("StackForgeModel", "steps", "I", false)
  | 34 => ("StackForgeModel", "trap", "I", false)
  | 35 => ("StackForgeModel", "latestTrap", "I", false)
  | 36 => ("StackForgeModel", "resultKind", "I", false)
  | 37 => ("StackForgeModel", "resultWhole", "J", false)
  | 38 => ("StackForgeModel", "resultReal", "D", false)
  | 39 => ("StackForgeModel", "code", "I", false)
  | _ => ("StackForgeModel", "keep", "[I", true)
def ty9 : Nat → FieldType := fun k => match k with
  | 0 => (.array .int)
  | 1 => (.array .int)
  | 2 => (.array .int)
  | 3 => (.array .int)
  | 4 => (.array .int)
  | 5 => (.array .int)
  | 6 => (.array .int)
  | 7 => (.array .int)
  | 8 => (.array .long)
  | 9 => .double
  | 10 => (.array .int)
  | 11 => .int
  | 12 => .boolean
  | 13 => (.array .int)
  | 14 => .int
  | 15 => (.array .int)
  | 16 => (.array .int)
  | 17 => (.array .int)
  | 18 => (.array .boolean)
  | 19 => (.array .boolean)
  | 20 => .int
  | 21 => .boolean
  | 22 => (.array .long)
  | 23 => (.array .double)
  | 24 => (.array .int)
  | 25 => (.array .long)
  | 26 => (.array .double)
  | 27 => (.array .int)
  | 28 => (.array .int)
  | 29 => (.array .int)
  | 30 => .int
  | 31 => .int
  | 32 => .int
  | 33 => .int
  | 34 => .int
  | 35 => .int
  | 36 => .int
  | 37 => .long
  | 38 => .double
  | 39 => .int
  | _ => (.array .int)
theorem nm9 : ∀ a, a < 41 → ∀ b, b < 41 → a ≠ b → (T9 a).2.1 ≠ (T9 b).2.1 := by decide +kernel
theorem ty9_ok : ∀ k, k < 41 → parseFieldDescriptor (T9 k).2.2.1 = some (ty9 k) := by decide +kernel
theorem in9 : ∀ w ∈ u_ws R9 T9 41, w ∈ tbl := tb_all _ (by decide +kernel)
abbrev b8_init : ByteArray := prog_1_method_1_code
def y8_init : MethodName := ⟨R8, "<init>", "()V"⟩
abbrev b8_shape : ByteArray := prog_1_method_2_code
def y8_shape : MethodName := ⟨R8, "shape", "(IIII)I"⟩
abbrev b8_code : ByteArray := prog_1_method_3_code
def y8_code : MethodName := ⟨R8, "code", "(IJI)I"⟩
abbrev b8_table : ByteArray := prog_1_method_4_code
def y8_table : MethodName := ⟨R8, "table", "(II)I"⟩
abbrev b8_check : ByteArray := prog_1_method_5_code
def y8_check : MethodName := ⟨R8, "check", "()I"⟩
abbrev b8_fault : ByteArray := prog_1_method_6_code
def y8_fault : MethodName := ⟨R8, "fault", "(I)I"⟩
abbrev b8_argue : ByteArray := prog_1_method_7_code
def y8_argue : MethodName := ⟨R8, "argue", "(I)I"⟩
abbrev b8_start : ByteArray := prog_1_method_8_code
def y8_start : MethodName := ⟨R8, "start", "(I)I"⟩
abbrev b8_run : ByteArray := prog_1_method_9_code
def y8_run : MethodName := ⟨R8, "run", "(I)I"⟩
abbrev b8_stop : ByteArray := prog_1_method_10_code
def y8_stop : MethodName := ⟨R8, "stop", "()I"⟩
abbrev b8_result : ByteArray := prog_1_method_11_code
def y8_result : MethodName := ⟨R8, "result", "()J"⟩
abbrev b8_real : ByteArray := prog_1_method_12_code
def y8_real : MethodName := ⟨R8, "real", "()D"⟩
abbrev b8_global : ByteArray := prog_1_method_13_code
def y8_global : MethodName := ⟨R8, "global", "(I)J"⟩
abbrev b8_realGlobal : ByteArray := prog_1_method_14_code
def y8_realGlobal : MethodName := ⟨R8, "realGlobal", "()D"⟩
abbrev b8_memory : ByteArray := prog_1_method_15_code
def y8_memory : MethodName := ⟨R8, "memory", "(I)I"⟩
abbrev b8_wipe : ByteArray := prog_1_method_16_code
def y8_wipe : MethodName := ⟨R8, "wipe", "()I"⟩
abbrev b8_count : ByteArray := prog_1_method_17_code
def y8_count : MethodName := ⟨R8, "count", "(I)I"⟩
abbrev b8_isFunction : ByteArray := prog_1_method_18_code
def y8_isFunction : MethodName := ⟨R8, "isFunction", "(I)Z"⟩
abbrev b8_isKindRow : ByteArray := prog_1_method_19_code
def y8_isKindRow : MethodName := ⟨R8, "isKindRow", "(I)Z"⟩
abbrev b8_phaseAfter : ByteArray := prog_1_method_20_code
def y8_phaseAfter : MethodName := ⟨R8, "phaseAfter", "(I)I"⟩
abbrev b8_throwTrap : ByteArray := prog_1_method_21_code
def y8_throwTrap : MethodName := ⟨R8, "throwTrap", "(I)V"⟩
abbrev b9_init : ByteArray := prog_11_method_1_code
def y9_init : MethodName := ⟨R9, "<init>", "()V"⟩
abbrev b9_thrown : ByteArray := prog_11_method_2_code
def y9_thrown : MethodName := ⟨R9, "thrown", "()I"⟩
abbrev b9_in : ByteArray := prog_11_method_3_code
def y9_in : MethodName := ⟨R9, "in", "(III)Z"⟩
abbrev b9_good : ByteArray := prog_11_method_4_code
def y9_good : MethodName := ⟨R9, "good", "(ZI)Z"⟩
abbrev b9_digits : ByteArray := prog_11_method_5_code
def y9_digits : MethodName := ⟨R9, "digits", "(I)I"⟩
abbrev b9_setKinds : ByteArray := prog_11_method_6_code
def y9_setKinds : MethodName := ⟨R9, "setKinds", "(IIII)V"⟩
abbrev b9_shape : ByteArray := prog_11_method_7_code
def y9_shape : MethodName := ⟨R9, "shape", "(IIII)I"⟩
abbrev b9_code : ByteArray := prog_11_method_8_code
def y9_code : MethodName := ⟨R9, "code", "(IJI)I"⟩
abbrev b9_table : ByteArray := prog_11_method_9_code
def y9_table : MethodName := ⟨R9, "table", "(II)I"⟩
abbrev b9_isKnown : ByteArray := prog_11_method_10_code
def y9_isKnown : MethodName := ⟨R9, "isKnown", "(I)Z"⟩
abbrev b9_byteAt : ByteArray := prog_11_method_11_code
def y9_byteAt : MethodName := ⟨R9, "byteAt", "(II)I"⟩
abbrev b9_behind : ByteArray := prog_11_method_12_code
def y9_behind : MethodName := ⟨R9, "behind", "(II)I"⟩
abbrev b9_seek : ByteArray := prog_11_method_13_code
def y9_seek : MethodName := ⟨R9, "seek", "(IIZ)I"⟩
abbrev b9_put : ByteArray := prog_11_method_14_code
def y9_put : MethodName := ⟨R9, "put", "(I)V"⟩
abbrev b9_takeAny : ByteArray := prog_11_method_15_code
def y9_takeAny : MethodName := ⟨R9, "takeAny", "()I"⟩
abbrev b9_take : ByteArray := prog_11_method_16_code
def y9_take : MethodName := ⟨R9, "take", "(I)V"⟩
abbrev b9_takeIf : ByteArray := prog_11_method_17_code
def y9_takeIf : MethodName := ⟨R9, "takeIf", "(I)V"⟩
abbrev b9_putIf : ByteArray := prog_11_method_18_code
def y9_putIf : MethodName := ⟨R9, "putIf", "(I)V"⟩
abbrev b9_begin : ByteArray := prog_11_method_19_code
def y9_begin : MethodName := ⟨R9, "begin", "(II)V"⟩
abbrev b9_die : ByteArray := prog_11_method_20_code
def y9_die : MethodName := ⟨R9, "die", "()V"⟩
abbrev b9_close : ByteArray := prog_11_method_21_code
def y9_close : MethodName := ⟨R9, "close", "(I)V"⟩
abbrev b9_label : ByteArray := prog_11_method_22_code
def y9_label : MethodName := ⟨R9, "label", "(I)I"⟩
abbrev b9_checkJump : ByteArray := prog_11_method_23_code
def y9_checkJump : MethodName := ⟨R9, "checkJump", "(III)V"⟩
abbrev b9_checkCall : ByteArray := prog_11_method_24_code
def y9_checkCall : MethodName := ⟨R9, "checkCall", "(II)V"⟩
abbrev b9_checkSelect : ByteArray := prog_11_method_25_code
def y9_checkSelect : MethodName := ⟨R9, "checkSelect", "()V"⟩
abbrev b9_checkVariable : ByteArray := prog_11_method_26_code
def y9_checkVariable : MethodName := ⟨R9, "checkVariable", "(III)V"⟩
abbrev b9_checkPlain : ByteArray := prog_11_method_27_code
def y9_checkPlain : MethodName := ⟨R9, "checkPlain", "(I)V"⟩
abbrev b9_checkOne : ByteArray := prog_11_method_28_code
def y9_checkOne : MethodName := ⟨R9, "checkOne", "(II)V"⟩
abbrev b9_find : ByteArray := prog_11_method_29_code
def y9_find : MethodName := ⟨R9, "find", "(I)I"⟩
abbrev b9_check : ByteArray := prog_11_method_30_code
def y9_check : MethodName := ⟨R9, "check", "()I"⟩
abbrev b9_fault : ByteArray := prog_11_method_31_code
def y9_fault : MethodName := ⟨R9, "fault", "(I)I"⟩
abbrev b9_argue : ByteArray := prog_11_method_32_code
def y9_argue : MethodName := ⟨R9, "argue", "(I)I"⟩
abbrev b9_enter : ByteArray := prog_11_method_33_code
def y9_enter : MethodName := ⟨R9, "enter", "(II)V"⟩
abbrev b9_start : ByteArray := prog_11_method_34_code
def y9_start : MethodName := ⟨R9, "start", "(I)I"⟩
abbrev b9_push : ByteArray := prog_11_method_35_code
def y9_push : MethodName := ⟨R9, "push", "(JD)V"⟩
abbrev b9_popInt : ByteArray := prog_11_method_36_code
def y9_popInt : MethodName := ⟨R9, "popInt", "()I"⟩
abbrev b9_leave : ByteArray := prog_11_method_37_code
def y9_leave : MethodName := ⟨R9, "leave", "()V"⟩
abbrev b9_jump : ByteArray := prog_11_method_38_code
def y9_jump : MethodName := ⟨R9, "jump", "(I)V"⟩
abbrev b9_block : ByteArray := prog_11_method_39_code
def y9_block : MethodName := ⟨R9, "block", "(III)V"⟩
abbrev b9_agree : ByteArray := prog_11_method_40_code
def y9_agree : MethodName := ⟨R9, "agree", "(II)Z"⟩
abbrev b9_call : ByteArray := prog_11_method_41_code
def y9_call : MethodName := ⟨R9, "call", "(II)V"⟩
abbrev b9_variable : ByteArray := prog_11_method_42_code
def y9_variable : MethodName := ⟨R9, "variable", "(II)V"⟩
abbrev b9_access : ByteArray := prog_11_method_43_code
def y9_access : MethodName := ⟨R9, "access", "(II)V"⟩
abbrev b9_bits : ByteArray := prog_11_method_44_code
def y9_bits : MethodName := ⟨R9, "bits", "(IJJI)J"⟩
abbrev b9_calculate : ByteArray := prog_11_method_45_code
def y9_calculate : MethodName := ⟨R9, "calculate", "(II)V"⟩
abbrev b9_measure : ByteArray := prog_11_method_46_code
def y9_measure : MethodName := ⟨R9, "measure", "(I)V"⟩
abbrev b9_turn : ByteArray := prog_11_method_47_code
def y9_turn : MethodName := ⟨R9, "turn", "(I)V"⟩
abbrev b9_plain : ByteArray := prog_11_method_48_code
def y9_plain : MethodName := ⟨R9, "plain", "(II)V"⟩
abbrev b9_select : ByteArray := prog_11_method_49_code
def y9_select : MethodName := ⟨R9, "select", "()V"⟩
abbrev b9_moves : ByteArray := prog_11_method_50_code
def y9_moves : MethodName := ⟨R9, "moves", "(III)V"⟩
abbrev b9_step : ByteArray := prog_11_method_51_code
def y9_step : MethodName := ⟨R9, "step", "()V"⟩
abbrev b9_run : ByteArray := prog_11_method_52_code
def y9_run : MethodName := ⟨R9, "run", "(I)I"⟩
abbrev b9_stop : ByteArray := prog_11_method_53_code
def y9_stop : MethodName := ⟨R9, "stop", "()I"⟩
abbrev b9_result : ByteArray := prog_11_method_54_code
def y9_result : MethodName := ⟨R9, "result", "()J"⟩
abbrev b9_real : ByteArray := prog_11_method_55_code
def y9_real : MethodName := ⟨R9, "real", "()D"⟩
abbrev b9_global : ByteArray := prog_11_method_56_code
def y9_global : MethodName := ⟨R9, "global", "(I)J"⟩
abbrev b9_realGlobal : ByteArray := prog_11_method_57_code
def y9_realGlobal : MethodName := ⟨R9, "realGlobal", "()D"⟩
abbrev b9_memory : ByteArray := prog_11_method_58_code
def y9_memory : MethodName := ⟨R9, "memory", "(I)I"⟩
abbrev b9_wipe : ByteArray := prog_11_method_59_code
def y9_wipe : MethodName := ⟨R9, "wipe", "()I"⟩
abbrev b9_count : ByteArray := prog_11_method_60_code
def y9_count : MethodName := ⟨R9, "count", "(I)I"⟩
abbrev b0_init : ByteArray := prog_2_method_1_code
def y0_init : MethodName := ⟨R0, "<init>", "(LStackForge$Function;)V"⟩
abbrev b0_begin : ByteArray := prog_2_method_2_code
def y0_begin : MethodName := ⟨R0, "begin", "(LStackForge$Function;)V"⟩
abbrev b0_setParameter : ByteArray := prog_2_method_3_code
def y0_setParameter : MethodName := ⟨R0, "setParameter", "(II)V"⟩
abbrev b0_takeParametersFrom : ByteArray := prog_2_method_4_code
def y0_takeParametersFrom : MethodName := ⟨R0, "takeParametersFrom", "(LStackForge$Cells;)V"⟩
abbrev b0_beginFrame : ByteArray := prog_2_method_5_code
def y0_beginFrame : MethodName := ⟨R0, "beginFrame", "(I)V"⟩
abbrev b0_beginIf : ByteArray := prog_2_method_6_code
def y0_beginIf : MethodName := ⟨R0, "beginIf", "(I)V"⟩
abbrev b0_endFrame : ByteArray := prog_2_method_7_code
def y0_endFrame : MethodName := ⟨R0, "endFrame", "()V"⟩
abbrev b0_goBehindEnd : ByteArray := prog_2_method_8_code
def y0_goBehindEnd : MethodName := ⟨R0, "goBehindEnd", "()V"⟩
abbrev b0_jumpsWithin : ByteArray := prog_2_method_9_code
def y0_jumpsWithin : MethodName := ⟨R0, "jumpsWithin", "(I)Z"⟩
abbrev b1_init : ByteArray := prog_3_method_1_code
def y1_init : MethodName := ⟨R1, "<init>", "(I)V"⟩
abbrev b1_clear : ByteArray := prog_3_method_2_code
def y1_clear : MethodName := ⟨R1, "clear", "()V"⟩
abbrev b1_height : ByteArray := prog_3_method_3_code
def y1_height : MethodName := ⟨R1, "height", "()I"⟩
abbrev b1_numberAt : ByteArray := prog_3_method_4_code
def y1_numberAt : MethodName := ⟨R1, "numberAt", "(I)J"⟩
abbrev b1_realAt : ByteArray := prog_3_method_5_code
def y1_realAt : MethodName := ⟨R1, "realAt", "(I)D"⟩
abbrev b1_set : ByteArray := prog_3_method_6_code
def y1_set : MethodName := ⟨R1, "set", "(IJD)V"⟩
abbrev b1_setFrom : ByteArray := prog_3_method_7_code
def y1_setFrom : MethodName := ⟨R1, "setFrom", "(ILStackForge$Cells;I)V"⟩
abbrev b1_put : ByteArray := prog_3_method_8_code
def y1_put : MethodName := ⟨R1, "put", "(JD)V"⟩
abbrev b1_putNumber : ByteArray := prog_3_method_9_code
def y1_putNumber : MethodName := ⟨R1, "putNumber", "(J)V"⟩
abbrev b1_putReal : ByteArray := prog_3_method_10_code
def y1_putReal : MethodName := ⟨R1, "putReal", "(D)V"⟩
abbrev b1_putTruth : ByteArray := prog_3_method_11_code
def y1_putTruth : MethodName := ⟨R1, "putTruth", "(Z)V"⟩
abbrev b1_putFrom : ByteArray := prog_3_method_12_code
def y1_putFrom : MethodName := ⟨R1, "putFrom", "(LStackForge$Cells;I)V"⟩
abbrev b1_takeNumber : ByteArray := prog_3_method_13_code
def y1_takeNumber : MethodName := ⟨R1, "takeNumber", "()J"⟩
abbrev b1_takeInt : ByteArray := prog_3_method_14_code
def y1_takeInt : MethodName := ⟨R1, "takeInt", "()I"⟩
abbrev b1_takeReal : ByteArray := prog_3_method_15_code
def y1_takeReal : MethodName := ⟨R1, "takeReal", "()D"⟩
abbrev b1_drop : ByteArray := prog_3_method_16_code
def y1_drop : MethodName := ⟨R1, "drop", "()V"⟩
abbrev b1_cutTo : ByteArray := prog_3_method_17_code
def y1_cutTo : MethodName := ⟨R1, "cutTo", "(I)V"⟩
abbrev b2_init : ByteArray := prog_4_method_1_code
def y2_init : MethodName := ⟨R2, "<init>", "([LStackForge$Function;)V"⟩
abbrev b2_faultIn : ByteArray := prog_4_method_2_code
def y2_faultIn : MethodName := ⟨R2, "faultIn", "(LStackForge$Function;)I"⟩
abbrev b2_goOver : ByteArray := prog_4_method_3_code
def y2_goOver : MethodName := ⟨R2, "goOver", "(I)V"⟩
abbrev b2_goOverFrames : ByteArray := prog_4_method_4_code
def y2_goOverFrames : MethodName := ⟨R2, "goOverFrames", "(III)V"⟩
abbrev b2_beginFrame : ByteArray := prog_4_method_5_code
def y2_beginFrame : MethodName := ⟨R2, "beginFrame", "(III)V"⟩
abbrev b2_turnToElse : ByteArray := prog_4_method_6_code
def y2_turnToElse : MethodName := ⟨R2, "turnToElse", "(I)V"⟩
abbrev b2_endFrame : ByteArray := prog_4_method_7_code
def y2_endFrame : MethodName := ⟨R2, "endFrame", "(I)V"⟩
abbrev b2_takeAllOfFrame : ByteArray := prog_4_method_8_code
def y2_takeAllOfFrame : MethodName := ⟨R2, "takeAllOfFrame", "()V"⟩
abbrev b2_goOverJumps : ByteArray := prog_4_method_9_code
def y2_goOverJumps : MethodName := ⟨R2, "goOverJumps", "(III)V"⟩
abbrev b2_kindOfJumps : ByteArray := prog_4_method_10_code
def y2_kindOfJumps : MethodName := ⟨R2, "kindOfJumps", "(II)I"⟩
abbrev b2_kindOfJump : ByteArray := prog_4_method_11_code
def y2_kindOfJump : MethodName := ⟨R2, "kindOfJump", "(I)I"⟩
abbrev b2_goOverValues : ByteArray := prog_4_method_12_code
def y2_goOverValues : MethodName := ⟨R2, "goOverValues", "(II)V"⟩
abbrev b2_goOverCall : ByteArray := prog_4_method_13_code
def y2_goOverCall : MethodName := ⟨R2, "goOverCall", "(IZ)V"⟩
abbrev b2_goOverSelect : ByteArray := prog_4_method_14_code
def y2_goOverSelect : MethodName := ⟨R2, "goOverSelect", "()V"⟩
abbrev b2_goOverGlobal : ByteArray := prog_4_method_15_code
def y2_goOverGlobal : MethodName := ⟨R2, "goOverGlobal", "(II)V"⟩
abbrev b2_goOverVariable : ByteArray := prog_4_method_16_code
def y2_goOverVariable : MethodName := ⟨R2, "goOverVariable", "(II)V"⟩
abbrev b2_goOverSignature : ByteArray := prog_4_method_17_code
def y2_goOverSignature : MethodName := ⟨R2, "goOverSignature", "(I)V"⟩
abbrev b2_take : ByteArray := prog_4_method_18_code
def y2_take : MethodName := ⟨R2, "take", "(I)I"⟩
abbrev b2_put : ByteArray := prog_4_method_19_code
def y2_put : MethodName := ⟨R2, "put", "(I)V"⟩
abbrev b2_die : ByteArray := prog_4_method_20_code
def y2_die : MethodName := ⟨R2, "die", "()V"⟩
abbrev b3_init : ByteArray := prog_5_method_1_code
def y3_init : MethodName := ⟨R3, "<init>", "()V"⟩
abbrev b3_open : ByteArray := prog_5_method_2_code
def y3_open : MethodName := ⟨R3, "open", "(IIII)V"⟩
abbrev b3_kindOfJump : ByteArray := prog_5_method_3_code
def y3_kindOfJump : MethodName := ⟨R3, "kindOfJump", "()I"⟩
abbrev b3_lacksElse : ByteArray := prog_5_method_4_code
def y3_lacksElse : MethodName := ⟨R3, "lacksElse", "()Z"⟩
abbrev b4_init : ByteArray := prog_6_method_1_code
def y4_init : MethodName := ⟨R4, "<init>", "()V"⟩
abbrev b4_reshape : ByteArray := prog_6_method_2_code
def y4_reshape : MethodName := ⟨R4, "reshape", "(III)V"⟩
abbrev b4_addVariables : ByteArray := prog_6_method_3_code
def y4_addVariables : MethodName := ⟨R4, "addVariables", "(I)V"⟩
abbrev b4_addVariable : ByteArray := prog_6_method_4_code
def y4_addVariable : MethodName := ⟨R4, "addVariable", "(I)V"⟩
abbrev b4_parameterCount : ByteArray := prog_6_method_5_code
def y4_parameterCount : MethodName := ⟨R4, "parameterCount", "()I"⟩
abbrev b4_variableCount : ByteArray := prog_6_method_6_code
def y4_variableCount : MethodName := ⟨R4, "variableCount", "()I"⟩
abbrev b4_outcome : ByteArray := prog_6_method_7_code
def y4_outcome : MethodName := ⟨R4, "outcome", "()I"⟩
abbrev b4_length : ByteArray := prog_6_method_8_code
def y4_length : MethodName := ⟨R4, "length", "()I"⟩
abbrev b4_kindOf : ByteArray := prog_6_method_9_code
def y4_kindOf : MethodName := ⟨R4, "kindOf", "(I)I"⟩
abbrev b4_isCalledLike : ByteArray := prog_6_method_10_code
def y4_isCalledLike : MethodName := ⟨R4, "isCalledLike", "(LStackForge$Function;)Z"⟩
abbrev b4_append : ByteArray := prog_6_method_11_code
def y4_append : MethodName := ⟨R4, "append", "(I)V"⟩
abbrev b4_byteAt : ByteArray := prog_6_method_12_code
def y4_byteAt : MethodName := ⟨R4, "byteAt", "(I)I"⟩
abbrev b4_sizeAt : ByteArray := prog_6_method_13_code
def y4_sizeAt : MethodName := ⟨R4, "sizeAt", "(I)I"⟩
abbrev b4_noteElse : ByteArray := prog_6_method_14_code
def y4_noteElse : MethodName := ⟨R4, "noteElse", "(II)V"⟩
abbrev b4_noteEnd : ByteArray := prog_6_method_15_code
def y4_noteEnd : MethodName := ⟨R4, "noteEnd", "(II)V"⟩
abbrev b4_behindElse : ByteArray := prog_6_method_16_code
def y4_behindElse : MethodName := ⟨R4, "behindElse", "(I)I"⟩
abbrev b4_behindEnd : ByteArray := prog_6_method_17_code
def y4_behindEnd : MethodName := ⟨R4, "behindEnd", "(I)I"⟩
abbrev b5_signature : ByteArray := prog_7_method_2_code
def y5_signature : MethodName := ⟨R5, "signature", "(I)I"⟩
abbrev b5_isKnown : ByteArray := prog_7_method_3_code
def y5_isKnown : MethodName := ⟨R5, "isKnown", "(I)Z"⟩
abbrev b5_hasOperand : ByteArray := prog_7_method_4_code
def y5_hasOperand : MethodName := ⟨R5, "hasOperand", "(I)Z"⟩
abbrev b6_init : ByteArray := prog_8_method_1_code
def y6_init : MethodName := ⟨R6, "<init>", "([LStackForge$Function;[I)V"⟩
abbrev b6_depth : ByteArray := prog_8_method_2_code
def y6_depth : MethodName := ⟨R6, "depth", "()I"⟩
abbrev b6_outcomeKind : ByteArray := prog_8_method_3_code
def y6_outcomeKind : MethodName := ⟨R6, "outcomeKind", "()I"⟩
abbrev b6_outcomeNumber : ByteArray := prog_8_method_4_code
def y6_outcomeNumber : MethodName := ⟨R6, "outcomeNumber", "()J"⟩
abbrev b6_outcomeReal : ByteArray := prog_8_method_5_code
def y6_outcomeReal : MethodName := ⟨R6, "outcomeReal", "()D"⟩
abbrev b6_begin : ByteArray := prog_8_method_6_code
def y6_begin : MethodName := ⟨R6, "begin", "(LStackForge$Function;[I)V"⟩
abbrev b6_step : ByteArray := prog_8_method_7_code
def y6_step : MethodName := ⟨R6, "step", "()I"⟩
abbrev b6_stepFrames : ByteArray := prog_8_method_8_code
def y6_stepFrames : MethodName := ⟨R6, "stepFrames", "(LStackForge$Call;II)I"⟩
abbrev b6_stepJumps : ByteArray := prog_8_method_9_code
def y6_stepJumps : MethodName := ⟨R6, "stepJumps", "(LStackForge$Call;III)I"⟩
abbrev b6_jump : ByteArray := prog_8_method_10_code
def y6_jump : MethodName := ⟨R6, "jump", "(LStackForge$Call;I)V"⟩
abbrev b6_chosenJump : ByteArray := prog_8_method_11_code
def y6_chosenJump : MethodName := ⟨R6, "chosenJump", "(LStackForge$Call;II)I"⟩
abbrev b6_leave : ByteArray := prog_8_method_12_code
def y6_leave : MethodName := ⟨R6, "leave", "(LStackForge$Call;)V"⟩
abbrev b6_stepCalls : ByteArray := prog_8_method_13_code
def y6_stepCalls : MethodName := ⟨R6, "stepCalls", "(LStackForge$Call;II)I"⟩
abbrev b6_enter : ByteArray := prog_8_method_14_code
def y6_enter : MethodName := ⟨R6, "enter", "(LStackForge$Call;LStackForge$Function;)I"⟩
abbrev b6_stepValues : ByteArray := prog_8_method_15_code
def y6_stepValues : MethodName := ⟨R6, "stepValues", "(LStackForge$Call;II)I"⟩
abbrev b6_select : ByteArray := prog_8_method_16_code
def y6_select : MethodName := ⟨R6, "select", "(LStackForge$Cells;)V"⟩
abbrev b6_stepNumbers : ByteArray := prog_8_method_17_code
def y6_stepNumbers : MethodName := ⟨R6, "stepNumbers", "(LStackForge$Cells;II)I"⟩
abbrev b6_stepMemory : ByteArray := prog_8_method_18_code
def y6_stepMemory : MethodName := ⟨R6, "stepMemory", "(LStackForge$Cells;II)I"⟩
abbrev b6_sizeInMemory : ByteArray := prog_8_method_19_code
def y6_sizeInMemory : MethodName := ⟨R6, "sizeInMemory", "(I)I"⟩
abbrev b6_stepInts : ByteArray := prog_8_method_20_code
def y6_stepInts : MethodName := ⟨R6, "stepInts", "(LStackForge$Cells;I)I"⟩
abbrev b6_ofInts : ByteArray := prog_8_method_21_code
def y6_ofInts : MethodName := ⟨R6, "ofInts", "(III)I"⟩
abbrev b6_stepLongs : ByteArray := prog_8_method_22_code
def y6_stepLongs : MethodName := ⟨R6, "stepLongs", "(LStackForge$Cells;I)I"⟩
abbrev b6_ofLongs : ByteArray := prog_8_method_23_code
def y6_ofLongs : MethodName := ⟨R6, "ofLongs", "(IJJ)J"⟩
abbrev b6_stepReals : ByteArray := prog_8_method_24_code
def y6_stepReals : MethodName := ⟨R6, "stepReals", "(LStackForge$Cells;I)I"⟩
abbrev b6_ofReals : ByteArray := prog_8_method_25_code
def y6_ofReals : MethodName := ⟨R6, "ofReals", "(IDD)D"⟩
abbrev b6_convert : ByteArray := prog_8_method_26_code
def y6_convert : MethodName := ⟨R6, "convert", "(LStackForge$Cells;I)I"⟩
abbrev b6_cut : ByteArray := prog_8_method_27_code
def y6_cut : MethodName := ⟨R6, "cut", "(LStackForge$Cells;)I"⟩
abbrev b7_init : ByteArray := prog_9_method_1_code
def y7_init : MethodName := ⟨R7, "<init>", "()V"⟩
abbrev b7_byteAt : ByteArray := prog_9_method_2_code
def y7_byteAt : MethodName := ⟨R7, "byteAt", "(I)I"⟩
abbrev b7_clear : ByteArray := prog_9_method_3_code
def y7_clear : MethodName := ⟨R7, "clear", "()I"⟩
abbrev b7_holds : ByteArray := prog_9_method_4_code
def y7_holds : MethodName := ⟨R7, "holds", "(JI)Z"⟩
abbrev b7_load : ByteArray := prog_9_method_5_code
def y7_load : MethodName := ⟨R7, "load", "(II)J"⟩
abbrev b7_store : ByteArray := prog_9_method_6_code
def y7_store : MethodName := ⟨R7, "store", "(IIJ)V"⟩
abbrev bL_shape : ByteArray := method_3_code
def yL_shape : MethodName := ⟨RL, "shape", "(LStackForge;IIII[J)I"⟩
abbrev bL_code : ByteArray := method_4_code
def yL_code : MethodName := ⟨RL, "code", "(LStackForge;IJI[J)I"⟩
abbrev bL_table : ByteArray := method_5_code
def yL_table : MethodName := ⟨RL, "table", "(LStackForge;II[J)I"⟩
abbrev bL_check : ByteArray := method_6_code
def yL_check : MethodName := ⟨RL, "check", "(LStackForge;[J)I"⟩
abbrev bL_fault : ByteArray := method_7_code
def yL_fault : MethodName := ⟨RL, "fault", "(LStackForge;I[J)I"⟩
abbrev bL_argue : ByteArray := method_8_code
def yL_argue : MethodName := ⟨RL, "argue", "(LStackForge;I[J)I"⟩
abbrev bL_start : ByteArray := method_9_code
def yL_start : MethodName := ⟨RL, "start", "(LStackForge;I[J)I"⟩
abbrev bL_run : ByteArray := method_10_code
def yL_run : MethodName := ⟨RL, "run", "(LStackForge;I[J)I"⟩
abbrev bL_stop : ByteArray := method_11_code
def yL_stop : MethodName := ⟨RL, "stop", "(LStackForge;[J)I"⟩
abbrev bL_result : ByteArray := method_12_code
def yL_result : MethodName := ⟨RL, "result", "(LStackForge;[J)I"⟩
abbrev bL_real : ByteArray := method_13_code
def yL_real : MethodName := ⟨RL, "real", "(LStackForge;[D)I"⟩
abbrev bL_global : ByteArray := method_14_code
def yL_global : MethodName := ⟨RL, "global", "(LStackForge;I[J)I"⟩
abbrev bL_memory : ByteArray := method_15_code
def yL_memory : MethodName := ⟨RL, "memory", "(LStackForge;I[J)I"⟩
abbrev bL_wipe : ByteArray := method_16_code
def yL_wipe : MethodName := ⟨RL, "wipe", "(LStackForge;[J)I"⟩
abbrev bL_count : ByteArray := method_17_code
def yL_count : MethodName := ⟨RL, "count", "(LStackForge;I[J)I"⟩
abbrev bL_law : ByteArray := code
end
section
theorem d8_init_0 : decode b8_init 0 = .ok (.aload_n 0, 1) := by decide +kernel
theorem d8_init_1 : decode b8_init 1 = .ok (.invokespecial 1, 3) := by decide +kernel
theorem d8_init_4 : decode b8_init 4 = .ok (.aload_n 0, 1) := by decide +kernel
theorem d8_init_5 : decode b8_init 5 = .ok (.bipush 6, 2) := by decide +kernel
theorem d8_init_7 : decode b8_init 7 = .ok (.anewarray 9, 3) := by decide +kernel
theorem d8_init_10 : decode b8_init 10 = .ok (.putfield 11, 3) := by decide +kernel
theorem d8_init_13 : decode b8_init 13 = .ok (.iconst 0, 1) := by decide +kernel
theorem d8_init_14 : decode b8_init 14 = .ok (.istore_n 1, 1) := by decide +kernel
theorem d8_init_15 : decode b8_init 15 = .ok (.iload_n 1, 1) := by decide +kernel
theorem d8_init_16 : decode b8_init 16 = .ok (.bipush 6, 2) := by decide +kernel
theorem d8_init_18 : decode b8_init 18 = .ok (.if_icmp .ge 22, 3) := by decide +kernel
theorem d8_init_21 : decode b8_init 21 = .ok (.aload_n 0, 1) := by decide +kernel
theorem d8_init_22 : decode b8_init 22 = .ok (.getfield 11, 3) := by decide +kernel
theorem d8_init_25 : decode b8_init 25 = .ok (.iload_n 1, 1) := by decide +kernel
theorem d8_init_26 : decode b8_init 26 = .ok (.new 9, 3) := by decide +kernel
theorem d8_init_29 : decode b8_init 29 = .ok (.dup, 1) := by decide +kernel
theorem d8_init_30 : decode b8_init 30 = .ok (.invokespecial 15, 3) := by decide +kernel
theorem d8_init_33 : decode b8_init 33 = .ok (.aastore, 1) := by decide +kernel
theorem d8_init_34 : decode b8_init 34 = .ok (.iinc 1 1, 3) := by decide +kernel
theorem d8_init_37 : decode b8_init 37 = .ok (.goto (-22), 3) := by decide +kernel
theorem d8_init_40 : decode b8_init 40 = .ok (.aload_n 0, 1) := by decide +kernel
theorem d8_init_41 : decode b8_init 41 = .ok (.bipush 8, 2) := by decide +kernel
theorem d8_init_43 : decode b8_init 43 = .ok (.newarray .int, 2) := by decide +kernel
theorem d8_init_45 : decode b8_init 45 = .ok (.putfield 16, 3) := by decide +kernel
theorem d8_init_48 : decode b8_init 48 = .ok (.iconst 0, 1) := by decide +kernel
theorem d8_init_49 : decode b8_init 49 = .ok (.istore_n 1, 1) := by decide +kernel
theorem d8_init_50 : decode b8_init 50 = .ok (.iload_n 1, 1) := by decide +kernel
theorem d8_init_51 : decode b8_init 51 = .ok (.bipush 8, 2) := by decide +kernel
theorem d8_init_53 : decode b8_init 53 = .ok (.if_icmp .ge 16, 3) := by decide +kernel
theorem d8_init_56 : decode b8_init 56 = .ok (.aload_n 0, 1) := by decide +kernel
theorem d8_init_57 : decode b8_init 57 = .ok (.getfield 16, 3) := by decide +kernel
theorem d8_init_60 : decode b8_init 60 = .ok (.iload_n 1, 1) := by decide +kernel
theorem d8_init_61 : decode b8_init 61 = .ok (.iconst (-1), 1) := by decide +kernel
theorem d8_init_62 : decode b8_init 62 = .ok (.iastore, 1) := by decide +kernel
theorem d8_init_63 : decode b8_init 63 = .ok (.iinc 1 1, 3) := by decide +kernel
theorem d8_init_66 : decode b8_init 66 = .ok (.goto (-16), 3) := by decide +kernel
theorem d8_init_69 : decode b8_init 69 = .ok (.aload_n 0, 1) := by decide +kernel
theorem d8_init_70 : decode b8_init 70 = .ok (.iconst 3, 1) := by decide +kernel
theorem d8_init_71 : decode b8_init 71 = .ok (.newarray .int, 2) := by decide +kernel
theorem d8_init_73 : decode b8_init 73 = .ok (.putfield 20, 3) := by decide +kernel
theorem d8_init_76 : decode b8_init 76 = .ok (.aload_n 0, 1) := by decide +kernel
theorem d8_init_77 : decode b8_init 77 = .ok (.new 23, 3) := by decide +kernel
theorem d8_init_80 : decode b8_init 80 = .ok (.dup, 1) := by decide +kernel
theorem d8_init_81 : decode b8_init 81 = .ok (.aload_n 0, 1) := by decide +kernel
theorem d8_init_82 : decode b8_init 82 = .ok (.getfield 11, 3) := by decide +kernel
theorem d8_init_85 : decode b8_init 85 = .ok (.invokespecial 25, 3) := by decide +kernel
theorem d8_init_88 : decode b8_init 88 = .ok (.putfield 28, 3) := by decide +kernel
theorem d8_init_91 : decode b8_init 91 = .ok (.aload_n 0, 1) := by decide +kernel
theorem d8_init_92 : decode b8_init 92 = .ok (.new 32, 3) := by decide +kernel
theorem d8_init_95 : decode b8_init 95 = .ok (.dup, 1) := by decide +kernel
theorem d8_init_96 : decode b8_init 96 = .ok (.aload_n 0, 1) := by decide +kernel
theorem d8_init_97 : decode b8_init 97 = .ok (.getfield 11, 3) := by decide +kernel
theorem d8_init_100 : decode b8_init 100 = .ok (.aload_n 0, 1) := by decide +kernel
theorem d8_init_101 : decode b8_init 101 = .ok (.getfield 16, 3) := by decide +kernel
theorem d8_init_104 : decode b8_init 104 = .ok (.invokespecial 34, 3) := by decide +kernel
theorem d8_init_107 : decode b8_init 107 = .ok (.putfield 37, 3) := by decide +kernel
theorem d8_init_110 : decode b8_init 110 = .ok (.return_, 1) := by decide +kernel
theorem d8_shape_0 : decode b8_shape 0 = .ok (.iload_n 1, 1) := by decide +kernel
theorem d8_shape_1 : decode b8_shape 1 = .ok (.invokestatic 41, 3) := by decide +kernel
theorem d8_shape_4 : decode b8_shape 4 = .ok (.ifCond .eq 27, 3) := by decide +kernel
theorem d8_shape_7 : decode b8_shape 7 = .ok (.iload_n 2, 1) := by decide +kernel
theorem d8_shape_8 : decode b8_shape 8 = .ok (.invokestatic 45, 3) := by decide +kernel
theorem d8_shape_11 : decode b8_shape 11 = .ok (.ifCond .eq 20, 3) := by decide +kernel
theorem d8_shape_14 : decode b8_shape 14 = .ok (.iload_n 3, 1) := by decide +kernel
theorem d8_shape_15 : decode b8_shape 15 = .ok (.ifCond .lt 16, 3) := by decide +kernel
theorem d8_shape_18 : decode b8_shape 18 = .ok (.iload_n 3, 1) := by decide +kernel
theorem d8_shape_19 : decode b8_shape 19 = .ok (.iconst 3, 1) := by decide +kernel
theorem d8_shape_20 : decode b8_shape 20 = .ok (.if_icmp .gt 11, 3) := by decide +kernel
theorem d8_shape_23 : decode b8_shape 23 = .ok (.iload 4, 2) := by decide +kernel
theorem d8_shape_25 : decode b8_shape 25 = .ok (.invokestatic 45, 3) := by decide +kernel
theorem d8_shape_28 : decode b8_shape 28 = .ok (.ifCond .ne 11, 3) := by decide +kernel
theorem d8_shape_31 : decode b8_shape 31 = .ok (.new 48, 3) := by decide +kernel
theorem d8_shape_34 : decode b8_shape 34 = .ok (.dup, 1) := by decide +kernel
theorem d8_shape_35 : decode b8_shape 35 = .ok (.invokespecial 50, 3) := by decide +kernel
theorem d8_shape_38 : decode b8_shape 38 = .ok (.athrow, 1) := by decide +kernel
theorem d8_shape_39 : decode b8_shape 39 = .ok (.aload_n 0, 1) := by decide +kernel
theorem d8_shape_40 : decode b8_shape 40 = .ok (.getfield 51, 3) := by decide +kernel
theorem d8_shape_43 : decode b8_shape 43 = .ok (.iconst 1, 1) := by decide +kernel
theorem d8_shape_44 : decode b8_shape 44 = .ok (.if_icmp .ne 11, 3) := by decide +kernel
theorem d8_shape_47 : decode b8_shape 47 = .ok (.new 55, 3) := by decide +kernel
theorem d8_shape_50 : decode b8_shape 50 = .ok (.dup, 1) := by decide +kernel
theorem d8_shape_51 : decode b8_shape 51 = .ok (.invokespecial 57, 3) := by decide +kernel
theorem d8_shape_54 : decode b8_shape 54 = .ok (.athrow, 1) := by decide +kernel
theorem d8_shape_55 : decode b8_shape 55 = .ok (.aload_n 0, 1) := by decide +kernel
theorem d8_shape_56 : decode b8_shape 56 = .ok (.iconst 0, 1) := by decide +kernel
theorem d8_shape_57 : decode b8_shape 57 = .ok (.putfield 58, 3) := by decide +kernel
theorem d8_shape_60 : decode b8_shape 60 = .ok (.aload_n 0, 1) := by decide +kernel
theorem d8_shape_61 : decode b8_shape 61 = .ok (.getfield 11, 3) := by decide +kernel
theorem d8_shape_64 : decode b8_shape 64 = .ok (.iload_n 1, 1) := by decide +kernel
theorem d8_shape_65 : decode b8_shape 65 = .ok (.aaload, 1) := by decide +kernel
theorem d8_shape_66 : decode b8_shape 66 = .ok (.iload_n 2, 1) := by decide +kernel
theorem d8_shape_67 : decode b8_shape 67 = .ok (.iload_n 3, 1) := by decide +kernel
theorem d8_shape_68 : decode b8_shape 68 = .ok (.iload 4, 2) := by decide +kernel
theorem d8_shape_70 : decode b8_shape 70 = .ok (.invokevirtual 62, 3) := by decide +kernel
theorem d8_shape_73 : decode b8_shape 73 = .ok (.aload_n 0, 1) := by decide +kernel
theorem d8_shape_74 : decode b8_shape 74 = .ok (.getfield 11, 3) := by decide +kernel
theorem d8_shape_77 : decode b8_shape 77 = .ok (.iload_n 1, 1) := by decide +kernel
theorem d8_shape_78 : decode b8_shape 78 = .ok (.aaload, 1) := by decide +kernel
theorem d8_shape_79 : decode b8_shape 79 = .ok (.invokevirtual 66, 3) := by decide +kernel
theorem d8_shape_82 : decode b8_shape 82 = .ok (.ireturn, 1) := by decide +kernel
theorem d8_code_0 : decode b8_code 0 = .ok (.iload_n 1, 1) := by decide +kernel
theorem d8_code_1 : decode b8_code 1 = .ok (.invokestatic 41, 3) := by decide +kernel
theorem d8_code_4 : decode b8_code 4 = .ok (.ifCond .eq 16, 3) := by decide +kernel
theorem d8_code_7 : decode b8_code 7 = .ok (.iload 4, 2) := by decide +kernel
theorem d8_code_9 : decode b8_code 9 = .ok (.iconst 1, 1) := by decide +kernel
theorem d8_code_10 : decode b8_code 10 = .ok (.if_icmp .lt 10, 3) := by decide +kernel
theorem d8_code_13 : decode b8_code 13 = .ok (.iload 4, 2) := by decide +kernel
theorem d8_code_15 : decode b8_code 15 = .ok (.bipush 8, 2) := by decide +kernel
theorem d8_code_17 : decode b8_code 17 = .ok (.if_icmp .le 11, 3) := by decide +kernel
theorem d8_code_20 : decode b8_code 20 = .ok (.new 48, 3) := by decide +kernel
theorem d8_code_23 : decode b8_code 23 = .ok (.dup, 1) := by decide +kernel
theorem d8_code_24 : decode b8_code 24 = .ok (.invokespecial 50, 3) := by decide +kernel
theorem d8_code_27 : decode b8_code 27 = .ok (.athrow, 1) := by decide +kernel
theorem d8_code_28 : decode b8_code 28 = .ok (.aload_n 0, 1) := by decide +kernel
theorem d8_code_29 : decode b8_code 29 = .ok (.getfield 51, 3) := by decide +kernel
theorem d8_code_32 : decode b8_code 32 = .ok (.iconst 1, 1) := by decide +kernel
theorem d8_code_33 : decode b8_code 33 = .ok (.if_icmp .ne 11, 3) := by decide +kernel
theorem d8_code_36 : decode b8_code 36 = .ok (.new 55, 3) := by decide +kernel
theorem d8_code_39 : decode b8_code 39 = .ok (.dup, 1) := by decide +kernel
theorem d8_code_40 : decode b8_code 40 = .ok (.invokespecial 57, 3) := by decide +kernel
theorem d8_code_43 : decode b8_code 43 = .ok (.athrow, 1) := by decide +kernel
theorem d8_code_44 : decode b8_code 44 = .ok (.aload_n 0, 1) := by decide +kernel
theorem d8_code_45 : decode b8_code 45 = .ok (.getfield 11, 3) := by decide +kernel
theorem d8_code_48 : decode b8_code 48 = .ok (.iload_n 1, 1) := by decide +kernel
theorem d8_code_49 : decode b8_code 49 = .ok (.aaload, 1) := by decide +kernel
theorem d8_code_50 : decode b8_code 50 = .ok (.invokevirtual 70, 3) := by decide +kernel
theorem d8_code_53 : decode b8_code 53 = .ok (.iload 4, 2) := by decide +kernel
theorem d8_code_55 : decode b8_code 55 = .ok (.iadd, 1) := by decide +kernel
theorem d8_code_56 : decode b8_code 56 = .ok (.bipush 60, 2) := by decide +kernel
theorem d8_code_58 : decode b8_code 58 = .ok (.if_icmp .le 11, 3) := by decide +kernel
theorem d8_code_61 : decode b8_code 61 = .ok (.new 73, 3) := by decide +kernel
theorem d8_code_64 : decode b8_code 64 = .ok (.dup, 1) := by decide +kernel
theorem d8_code_65 : decode b8_code 65 = .ok (.invokespecial 75, 3) := by decide +kernel
theorem d8_code_68 : decode b8_code 68 = .ok (.athrow, 1) := by decide +kernel
theorem d8_code_69 : decode b8_code 69 = .ok (.aload_n 0, 1) := by decide +kernel
theorem d8_code_70 : decode b8_code 70 = .ok (.iconst 0, 1) := by decide +kernel
theorem d8_code_71 : decode b8_code 71 = .ok (.putfield 58, 3) := by decide +kernel
theorem d8_code_74 : decode b8_code 74 = .ok (.iload 4, 2) := by decide +kernel
theorem d8_code_76 : decode b8_code 76 = .ok (.iconst 1, 1) := by decide +kernel
theorem d8_code_77 : decode b8_code 77 = .ok (.isub, 1) := by decide +kernel
theorem d8_code_78 : decode b8_code 78 = .ok (.istore 5, 2) := by decide +kernel
theorem d8_code_80 : decode b8_code 80 = .ok (.iload 5, 2) := by decide +kernel
theorem d8_code_82 : decode b8_code 82 = .ok (.ifCond .lt 30, 3) := by decide +kernel
theorem d8_code_85 : decode b8_code 85 = .ok (.aload_n 0, 1) := by decide +kernel
theorem d8_code_86 : decode b8_code 86 = .ok (.getfield 11, 3) := by decide +kernel
theorem d8_code_89 : decode b8_code 89 = .ok (.iload_n 1, 1) := by decide +kernel
theorem d8_code_90 : decode b8_code 90 = .ok (.aaload, 1) := by decide +kernel
theorem d8_code_91 : decode b8_code 91 = .ok (.lload_n 2, 1) := by decide +kernel
theorem d8_code_92 : decode b8_code 92 = .ok (.bipush 8, 2) := by decide +kernel
theorem d8_code_94 : decode b8_code 94 = .ok (.iload 5, 2) := by decide +kernel
theorem d8_code_96 : decode b8_code 96 = .ok (.imul, 1) := by decide +kernel
theorem d8_code_97 : decode b8_code 97 = .ok (.lushr, 1) := by decide +kernel
theorem d8_code_98 : decode b8_code 98 = .ok (.l2i, 1) := by decide +kernel
theorem d8_code_99 : decode b8_code 99 = .ok (.sipush 255, 3) := by decide +kernel
theorem d8_code_102 : decode b8_code 102 = .ok (.iand, 1) := by decide +kernel
theorem d8_code_103 : decode b8_code 103 = .ok (.invokevirtual 76, 3) := by decide +kernel
theorem d8_code_106 : decode b8_code 106 = .ok (.iinc 5 (-1), 3) := by decide +kernel
theorem d8_code_109 : decode b8_code 109 = .ok (.goto (-29), 3) := by decide +kernel
theorem d8_code_112 : decode b8_code 112 = .ok (.aload_n 0, 1) := by decide +kernel
theorem d8_code_113 : decode b8_code 113 = .ok (.getfield 11, 3) := by decide +kernel
theorem d8_code_116 : decode b8_code 116 = .ok (.iload_n 1, 1) := by decide +kernel
theorem d8_code_117 : decode b8_code 117 = .ok (.aaload, 1) := by decide +kernel
theorem d8_code_118 : decode b8_code 118 = .ok (.invokevirtual 70, 3) := by decide +kernel
theorem d8_code_121 : decode b8_code 121 = .ok (.ireturn, 1) := by decide +kernel
theorem d8_table_0 : decode b8_table 0 = .ok (.iload_n 1, 1) := by decide +kernel
theorem d8_table_1 : decode b8_table 1 = .ok (.ifCond .lt 21, 3) := by decide +kernel
theorem d8_table_4 : decode b8_table 4 = .ok (.iload_n 1, 1) := by decide +kernel
theorem d8_table_5 : decode b8_table 5 = .ok (.bipush 8, 2) := by decide +kernel
theorem d8_table_7 : decode b8_table 7 = .ok (.if_icmp .ge 15, 3) := by decide +kernel
theorem d8_table_10 : decode b8_table 10 = .ok (.iload_n 2, 1) := by decide +kernel
theorem d8_table_11 : decode b8_table 11 = .ok (.iconst (-1), 1) := by decide +kernel
theorem d8_table_12 : decode b8_table 12 = .ok (.if_icmp .eq 18, 3) := by decide +kernel
theorem d8_table_15 : decode b8_table 15 = .ok (.iload_n 2, 1) := by decide +kernel
theorem d8_table_16 : decode b8_table 16 = .ok (.invokestatic 41, 3) := by decide +kernel
theorem d8_table_19 : decode b8_table 19 = .ok (.ifCond .ne 11, 3) := by decide +kernel
theorem d8_table_22 : decode b8_table 22 = .ok (.new 48, 3) := by decide +kernel
theorem d8_table_25 : decode b8_table 25 = .ok (.dup, 1) := by decide +kernel
theorem d8_table_26 : decode b8_table 26 = .ok (.invokespecial 50, 3) := by decide +kernel
theorem d8_table_29 : decode b8_table 29 = .ok (.athrow, 1) := by decide +kernel
theorem d8_table_30 : decode b8_table 30 = .ok (.aload_n 0, 1) := by decide +kernel
theorem d8_table_31 : decode b8_table 31 = .ok (.getfield 16, 3) := by decide +kernel
theorem d8_table_34 : decode b8_table 34 = .ok (.iload_n 1, 1) := by decide +kernel
theorem d8_table_35 : decode b8_table 35 = .ok (.iaload, 1) := by decide +kernel
theorem d8_table_36 : decode b8_table 36 = .ok (.istore_n 3, 1) := by decide +kernel
theorem d8_table_37 : decode b8_table 37 = .ok (.aload_n 0, 1) := by decide +kernel
theorem d8_table_38 : decode b8_table 38 = .ok (.getfield 16, 3) := by decide +kernel
theorem d8_table_41 : decode b8_table 41 = .ok (.iload_n 1, 1) := by decide +kernel
theorem d8_table_42 : decode b8_table 42 = .ok (.iload_n 2, 1) := by decide +kernel
theorem d8_table_43 : decode b8_table 43 = .ok (.iastore, 1) := by decide +kernel
theorem d8_table_44 : decode b8_table 44 = .ok (.iload_n 3, 1) := by decide +kernel
theorem d8_table_45 : decode b8_table 45 = .ok (.ireturn, 1) := by decide +kernel
theorem d8_check_0 : decode b8_check 0 = .ok (.aload_n 0, 1) := by decide +kernel
theorem d8_check_1 : decode b8_check 1 = .ok (.getfield 51, 3) := by decide +kernel
theorem d8_check_4 : decode b8_check 4 = .ok (.iconst 1, 1) := by decide +kernel
theorem d8_check_5 : decode b8_check 5 = .ok (.if_icmp .ne 11, 3) := by decide +kernel
theorem d8_check_8 : decode b8_check 8 = .ok (.new 55, 3) := by decide +kernel
theorem d8_check_11 : decode b8_check 11 = .ok (.dup, 1) := by decide +kernel
theorem d8_check_12 : decode b8_check 12 = .ok (.invokespecial 57, 3) := by decide +kernel
theorem d8_check_15 : decode b8_check 15 = .ok (.athrow, 1) := by decide +kernel
theorem d8_check_16 : decode b8_check 16 = .ok (.iconst 0, 1) := by decide +kernel
theorem d8_check_17 : decode b8_check 17 = .ok (.istore_n 1, 1) := by decide +kernel
theorem d8_check_18 : decode b8_check 18 = .ok (.iconst 0, 1) := by decide +kernel
theorem d8_check_19 : decode b8_check 19 = .ok (.istore_n 2, 1) := by decide +kernel
theorem d8_check_20 : decode b8_check 20 = .ok (.iload_n 2, 1) := by decide +kernel
theorem d8_check_21 : decode b8_check 21 = .ok (.bipush 6, 2) := by decide +kernel
theorem d8_check_23 : decode b8_check 23 = .ok (.if_icmp .ge 49, 3) := by decide +kernel
theorem d8_check_26 : decode b8_check 26 = .ok (.aload_n 0, 1) := by decide +kernel
theorem d8_check_27 : decode b8_check 27 = .ok (.getfield 11, 3) := by decide +kernel
theorem d8_check_30 : decode b8_check 30 = .ok (.iload_n 2, 1) := by decide +kernel
theorem d8_check_31 : decode b8_check 31 = .ok (.aaload, 1) := by decide +kernel
theorem d8_check_32 : decode b8_check 32 = .ok (.invokevirtual 70, 3) := by decide +kernel
theorem d8_check_35 : decode b8_check 35 = .ok (.ifCond .le 31, 3) := by decide +kernel
theorem d8_check_38 : decode b8_check 38 = .ok (.iinc 1 1, 3) := by decide +kernel
theorem d8_check_41 : decode b8_check 41 = .ok (.aload_n 0, 1) := by decide +kernel
theorem d8_check_42 : decode b8_check 42 = .ok (.getfield 28, 3) := by decide +kernel
theorem d8_check_45 : decode b8_check 45 = .ok (.aload_n 0, 1) := by decide +kernel
theorem d8_check_46 : decode b8_check 46 = .ok (.getfield 11, 3) := by decide +kernel
theorem d8_check_49 : decode b8_check 49 = .ok (.iload_n 2, 1) := by decide +kernel
theorem d8_check_50 : decode b8_check 50 = .ok (.aaload, 1) := by decide +kernel
theorem d8_check_51 : decode b8_check 51 = .ok (.invokevirtual 80, 3) := by decide +kernel
theorem d8_check_54 : decode b8_check 54 = .ok (.iconst (-1), 1) := by decide +kernel
theorem d8_check_55 : decode b8_check 55 = .ok (.if_icmp .eq 11, 3) := by decide +kernel
theorem d8_check_58 : decode b8_check 58 = .ok (.new 84, 3) := by decide +kernel
theorem d8_check_61 : decode b8_check 61 = .ok (.dup, 1) := by decide +kernel
theorem d8_check_62 : decode b8_check 62 = .ok (.invokespecial 86, 3) := by decide +kernel
theorem d8_check_65 : decode b8_check 65 = .ok (.athrow, 1) := by decide +kernel
theorem d8_check_66 : decode b8_check 66 = .ok (.iinc 2 1, 3) := by decide +kernel
theorem d8_check_69 : decode b8_check 69 = .ok (.goto (-49), 3) := by decide +kernel
theorem d8_check_72 : decode b8_check 72 = .ok (.aload_n 0, 1) := by decide +kernel
theorem d8_check_73 : decode b8_check 73 = .ok (.iconst 1, 1) := by decide +kernel
theorem d8_check_74 : decode b8_check 74 = .ok (.putfield 58, 3) := by decide +kernel
theorem d8_check_77 : decode b8_check 77 = .ok (.iload_n 1, 1) := by decide +kernel
theorem d8_check_78 : decode b8_check 78 = .ok (.ireturn, 1) := by decide +kernel
theorem d8_fault_0 : decode b8_fault 0 = .ok (.iload_n 1, 1) := by decide +kernel
theorem d8_fault_1 : decode b8_fault 1 = .ok (.invokestatic 41, 3) := by decide +kernel
theorem d8_fault_4 : decode b8_fault 4 = .ok (.ifCond .ne 11, 3) := by decide +kernel
theorem d8_fault_7 : decode b8_fault 7 = .ok (.new 48, 3) := by decide +kernel
theorem d8_fault_10 : decode b8_fault 10 = .ok (.dup, 1) := by decide +kernel
theorem d8_fault_11 : decode b8_fault 11 = .ok (.invokespecial 50, 3) := by decide +kernel
theorem d8_fault_14 : decode b8_fault 14 = .ok (.athrow, 1) := by decide +kernel
theorem d8_fault_15 : decode b8_fault 15 = .ok (.aload_n 0, 1) := by decide +kernel
theorem d8_fault_16 : decode b8_fault 16 = .ok (.getfield 28, 3) := by decide +kernel
theorem d8_fault_19 : decode b8_fault 19 = .ok (.aload_n 0, 1) := by decide +kernel
theorem d8_fault_20 : decode b8_fault 20 = .ok (.getfield 11, 3) := by decide +kernel
theorem d8_fault_23 : decode b8_fault 23 = .ok (.iload_n 1, 1) := by decide +kernel
theorem d8_fault_24 : decode b8_fault 24 = .ok (.aaload, 1) := by decide +kernel
theorem d8_fault_25 : decode b8_fault 25 = .ok (.invokevirtual 80, 3) := by decide +kernel
theorem d8_fault_28 : decode b8_fault 28 = .ok (.ireturn, 1) := by decide +kernel
theorem d8_argue_0 : decode b8_argue 0 = .ok (.aload_n 0, 1) := by decide +kernel
theorem d8_argue_1 : decode b8_argue 1 = .ok (.getfield 87, 3) := by decide +kernel
theorem d8_argue_4 : decode b8_argue 4 = .ok (.iconst 3, 1) := by decide +kernel
theorem d8_argue_5 : decode b8_argue 5 = .ok (.if_icmp .lt 11, 3) := by decide +kernel
theorem d8_argue_8 : decode b8_argue 8 = .ok (.new 73, 3) := by decide +kernel
theorem d8_argue_11 : decode b8_argue 11 = .ok (.dup, 1) := by decide +kernel
theorem d8_argue_12 : decode b8_argue 12 = .ok (.invokespecial 75, 3) := by decide +kernel
theorem d8_argue_15 : decode b8_argue 15 = .ok (.athrow, 1) := by decide +kernel
theorem d8_argue_16 : decode b8_argue 16 = .ok (.aload_n 0, 1) := by decide +kernel
theorem d8_argue_17 : decode b8_argue 17 = .ok (.getfield 20, 3) := by decide +kernel
theorem d8_argue_20 : decode b8_argue 20 = .ok (.aload_n 0, 1) := by decide +kernel
theorem d8_argue_21 : decode b8_argue 21 = .ok (.getfield 87, 3) := by decide +kernel
theorem d8_argue_24 : decode b8_argue 24 = .ok (.iload_n 1, 1) := by decide +kernel
theorem d8_argue_25 : decode b8_argue 25 = .ok (.iastore, 1) := by decide +kernel
theorem d8_argue_26 : decode b8_argue 26 = .ok (.aload_n 0, 1) := by decide +kernel
theorem d8_argue_27 : decode b8_argue 27 = .ok (.dup, 1) := by decide +kernel
theorem d8_argue_28 : decode b8_argue 28 = .ok (.getfield 87, 3) := by decide +kernel
theorem d8_argue_31 : decode b8_argue 31 = .ok (.iconst 1, 1) := by decide +kernel
theorem d8_argue_32 : decode b8_argue 32 = .ok (.iadd, 1) := by decide +kernel
theorem d8_argue_33 : decode b8_argue 33 = .ok (.putfield 87, 3) := by decide +kernel
theorem d8_argue_36 : decode b8_argue 36 = .ok (.aload_n 0, 1) := by decide +kernel
theorem d8_argue_37 : decode b8_argue 37 = .ok (.getfield 87, 3) := by decide +kernel
theorem d8_argue_40 : decode b8_argue 40 = .ok (.ireturn, 1) := by decide +kernel
theorem d8_start_0 : decode b8_start 0 = .ok (.iload_n 1, 1) := by decide +kernel
theorem d8_start_1 : decode b8_start 1 = .ok (.invokestatic 41, 3) := by decide +kernel
theorem d8_start_4 : decode b8_start 4 = .ok (.ifCond .ne 11, 3) := by decide +kernel
theorem d8_start_7 : decode b8_start 7 = .ok (.new 48, 3) := by decide +kernel
theorem d8_start_10 : decode b8_start 10 = .ok (.dup, 1) := by decide +kernel
theorem d8_start_11 : decode b8_start 11 = .ok (.invokespecial 50, 3) := by decide +kernel
theorem d8_start_14 : decode b8_start 14 = .ok (.athrow, 1) := by decide +kernel
theorem d8_start_15 : decode b8_start 15 = .ok (.aload_n 0, 1) := by decide +kernel
theorem d8_start_16 : decode b8_start 16 = .ok (.getfield 51, 3) := by decide +kernel
theorem d8_start_19 : decode b8_start 19 = .ok (.iconst 1, 1) := by decide +kernel
theorem d8_start_20 : decode b8_start 20 = .ok (.if_icmp .eq 22, 3) := by decide +kernel
theorem d8_start_23 : decode b8_start 23 = .ok (.aload_n 0, 1) := by decide +kernel
theorem d8_start_24 : decode b8_start 24 = .ok (.getfield 58, 3) := by decide +kernel
theorem d8_start_27 : decode b8_start 27 = .ok (.ifCond .eq 15, 3) := by decide +kernel
theorem d8_start_30 : decode b8_start 30 = .ok (.aload_n 0, 1) := by decide +kernel
theorem d8_start_31 : decode b8_start 31 = .ok (.getfield 11, 3) := by decide +kernel
theorem d8_start_34 : decode b8_start 34 = .ok (.iload_n 1, 1) := by decide +kernel
theorem d8_start_35 : decode b8_start 35 = .ok (.aaload, 1) := by decide +kernel
theorem d8_start_36 : decode b8_start 36 = .ok (.invokevirtual 70, 3) := by decide +kernel
theorem d8_start_39 : decode b8_start 39 = .ok (.ifCond .ne 11, 3) := by decide +kernel
theorem d8_start_42 : decode b8_start 42 = .ok (.new 55, 3) := by decide +kernel
theorem d8_start_45 : decode b8_start 45 = .ok (.dup, 1) := by decide +kernel
theorem d8_start_46 : decode b8_start 46 = .ok (.invokespecial 57, 3) := by decide +kernel
theorem d8_start_49 : decode b8_start 49 = .ok (.athrow, 1) := by decide +kernel
theorem d8_start_50 : decode b8_start 50 = .ok (.aload_n 0, 1) := by decide +kernel
theorem d8_start_51 : decode b8_start 51 = .ok (.getfield 11, 3) := by decide +kernel
theorem d8_start_54 : decode b8_start 54 = .ok (.iload_n 1, 1) := by decide +kernel
theorem d8_start_55 : decode b8_start 55 = .ok (.aaload, 1) := by decide +kernel
theorem d8_start_56 : decode b8_start 56 = .ok (.invokevirtual 90, 3) := by decide +kernel
theorem d8_start_59 : decode b8_start 59 = .ok (.aload_n 0, 1) := by decide +kernel
theorem d8_start_60 : decode b8_start 60 = .ok (.getfield 87, 3) := by decide +kernel
theorem d8_start_63 : decode b8_start 63 = .ok (.if_icmp .eq 11, 3) := by decide +kernel
theorem d8_start_66 : decode b8_start 66 = .ok (.new 84, 3) := by decide +kernel
theorem d8_start_69 : decode b8_start 69 = .ok (.dup, 1) := by decide +kernel
theorem d8_start_70 : decode b8_start 70 = .ok (.invokespecial 86, 3) := by decide +kernel
theorem d8_start_73 : decode b8_start 73 = .ok (.athrow, 1) := by decide +kernel
theorem d8_start_74 : decode b8_start 74 = .ok (.aload_n 0, 1) := by decide +kernel
theorem d8_start_75 : decode b8_start 75 = .ok (.getfield 37, 3) := by decide +kernel
theorem d8_start_78 : decode b8_start 78 = .ok (.aload_n 0, 1) := by decide +kernel
theorem d8_start_79 : decode b8_start 79 = .ok (.getfield 11, 3) := by decide +kernel
theorem d8_start_82 : decode b8_start 82 = .ok (.iload_n 1, 1) := by decide +kernel
theorem d8_start_83 : decode b8_start 83 = .ok (.aaload, 1) := by decide +kernel
theorem d8_start_84 : decode b8_start 84 = .ok (.aload_n 0, 1) := by decide +kernel
theorem d8_start_85 : decode b8_start 85 = .ok (.getfield 20, 3) := by decide +kernel
theorem d8_start_88 : decode b8_start 88 = .ok (.invokevirtual 93, 3) := by decide +kernel
theorem d8_start_91 : decode b8_start 91 = .ok (.aload_n 0, 1) := by decide +kernel
theorem d8_start_92 : decode b8_start 92 = .ok (.iconst 1, 1) := by decide +kernel
theorem d8_start_93 : decode b8_start 93 = .ok (.putfield 51, 3) := by decide +kernel
theorem d8_start_96 : decode b8_start 96 = .ok (.aload_n 0, 1) := by decide +kernel
theorem d8_start_97 : decode b8_start 97 = .ok (.iconst 0, 1) := by decide +kernel
theorem d8_start_98 : decode b8_start 98 = .ok (.putfield 97, 3) := by decide +kernel
theorem d8_start_101 : decode b8_start 101 = .ok (.aload_n 0, 1) := by decide +kernel
theorem d8_start_102 : decode b8_start 102 = .ok (.getfield 87, 3) := by decide +kernel
theorem d8_start_105 : decode b8_start 105 = .ok (.istore_n 2, 1) := by decide +kernel
theorem d8_start_106 : decode b8_start 106 = .ok (.aload_n 0, 1) := by decide +kernel
theorem d8_start_107 : decode b8_start 107 = .ok (.iconst 0, 1) := by decide +kernel
theorem d8_start_108 : decode b8_start 108 = .ok (.putfield 87, 3) := by decide +kernel
theorem d8_start_111 : decode b8_start 111 = .ok (.iload_n 2, 1) := by decide +kernel
theorem d8_start_112 : decode b8_start 112 = .ok (.ireturn, 1) := by decide +kernel
theorem d8_run_0 : decode b8_run 0 = .ok (.iload_n 1, 1) := by decide +kernel
theorem d8_run_1 : decode b8_run 1 = .ok (.iconst 1, 1) := by decide +kernel
theorem d8_run_2 : decode b8_run 2 = .ok (.if_icmp .lt 9, 3) := by decide +kernel
theorem d8_run_5 : decode b8_run 5 = .ok (.iload_n 1, 1) := by decide +kernel
theorem d8_run_6 : decode b8_run 6 = .ok (.bipush 20, 2) := by decide +kernel
theorem d8_run_8 : decode b8_run 8 = .ok (.if_icmp .le 11, 3) := by decide +kernel
theorem d8_run_11 : decode b8_run 11 = .ok (.new 48, 3) := by decide +kernel
theorem d8_run_14 : decode b8_run 14 = .ok (.dup, 1) := by decide +kernel
theorem d8_run_15 : decode b8_run 15 = .ok (.invokespecial 50, 3) := by decide +kernel
theorem d8_run_18 : decode b8_run 18 = .ok (.athrow, 1) := by decide +kernel
theorem d8_run_19 : decode b8_run 19 = .ok (.aload_n 0, 1) := by decide +kernel
theorem d8_run_20 : decode b8_run 20 = .ok (.getfield 51, 3) := by decide +kernel
theorem d8_run_23 : decode b8_run 23 = .ok (.iconst 1, 1) := by decide +kernel
theorem d8_run_24 : decode b8_run 24 = .ok (.if_icmp .eq 11, 3) := by decide +kernel
theorem d8_run_27 : decode b8_run 27 = .ok (.new 55, 3) := by decide +kernel
theorem d8_run_30 : decode b8_run 30 = .ok (.dup, 1) := by decide +kernel
theorem d8_run_31 : decode b8_run 31 = .ok (.invokespecial 57, 3) := by decide +kernel
theorem d8_run_34 : decode b8_run 34 = .ok (.athrow, 1) := by decide +kernel
theorem d8_run_35 : decode b8_run 35 = .ok (.iconst 0, 1) := by decide +kernel
theorem d8_run_36 : decode b8_run 36 = .ok (.istore_n 2, 1) := by decide +kernel
theorem d8_run_37 : decode b8_run 37 = .ok (.iconst 0, 1) := by decide +kernel
theorem d8_run_38 : decode b8_run 38 = .ok (.istore_n 3, 1) := by decide +kernel
theorem d8_run_39 : decode b8_run 39 = .ok (.iconst 0, 1) := by decide +kernel
theorem d8_run_40 : decode b8_run 40 = .ok (.istore 4, 2) := by decide +kernel
theorem d8_run_42 : decode b8_run 42 = .ok (.iload 4, 2) := by decide +kernel
theorem d8_run_44 : decode b8_run 44 = .ok (.iload_n 1, 1) := by decide +kernel
theorem d8_run_45 : decode b8_run 45 = .ok (.if_icmp .ge 37, 3) := by decide +kernel
theorem d8_run_48 : decode b8_run 48 = .ok (.aload_n 0, 1) := by decide +kernel
theorem d8_run_49 : decode b8_run 49 = .ok (.getfield 51, 3) := by decide +kernel
theorem d8_run_52 : decode b8_run 52 = .ok (.iconst 1, 1) := by decide +kernel
theorem d8_run_53 : decode b8_run 53 = .ok (.if_icmp .ne 29, 3) := by decide +kernel
theorem d8_run_56 : decode b8_run 56 = .ok (.aload_n 0, 1) := by decide +kernel
theorem d8_run_57 : decode b8_run 57 = .ok (.getfield 37, 3) := by decide +kernel
theorem d8_run_60 : decode b8_run 60 = .ok (.invokevirtual 100, 3) := by decide +kernel
theorem d8_run_63 : decode b8_run 63 = .ok (.istore_n 3, 1) := by decide +kernel
theorem d8_run_64 : decode b8_run 64 = .ok (.iinc 2 1, 3) := by decide +kernel
theorem d8_run_67 : decode b8_run 67 = .ok (.aload_n 0, 1) := by decide +kernel
theorem d8_run_68 : decode b8_run 68 = .ok (.aload_n 0, 1) := by decide +kernel
theorem d8_run_69 : decode b8_run 69 = .ok (.iload_n 3, 1) := by decide +kernel
theorem d8_run_70 : decode b8_run 70 = .ok (.invokevirtual 103, 3) := by decide +kernel
theorem d8_run_73 : decode b8_run 73 = .ok (.putfield 51, 3) := by decide +kernel
theorem d8_run_76 : decode b8_run 76 = .ok (.iinc 4 1, 3) := by decide +kernel
theorem d8_run_79 : decode b8_run 79 = .ok (.goto (-37), 3) := by decide +kernel
theorem d8_run_82 : decode b8_run 82 = .ok (.aload_n 0, 1) := by decide +kernel
theorem d8_run_83 : decode b8_run 83 = .ok (.dup, 1) := by decide +kernel
theorem d8_run_84 : decode b8_run 84 = .ok (.getfield 97, 3) := by decide +kernel
theorem d8_run_87 : decode b8_run 87 = .ok (.iload_n 2, 1) := by decide +kernel
theorem d8_run_88 : decode b8_run 88 = .ok (.iadd, 1) := by decide +kernel
theorem d8_run_89 : decode b8_run 89 = .ok (.putfield 97, 3) := by decide +kernel
theorem d8_run_92 : decode b8_run 92 = .ok (.iload_n 3, 1) := by decide +kernel
theorem d8_run_93 : decode b8_run 93 = .ok (.ifCond .eq 12, 3) := by decide +kernel
theorem d8_run_96 : decode b8_run 96 = .ok (.aload_n 0, 1) := by decide +kernel
theorem d8_run_97 : decode b8_run 97 = .ok (.iload_n 3, 1) := by decide +kernel
theorem d8_run_98 : decode b8_run 98 = .ok (.putfield 107, 3) := by decide +kernel
theorem d8_run_101 : decode b8_run 101 = .ok (.iload_n 3, 1) := by decide +kernel
theorem d8_run_102 : decode b8_run 102 = .ok (.invokestatic 110, 3) := by decide +kernel
theorem d8_run_105 : decode b8_run 105 = .ok (.iload_n 2, 1) := by decide +kernel
theorem d8_run_106 : decode b8_run 106 = .ok (.ireturn, 1) := by decide +kernel
theorem d8_stop_0 : decode b8_stop 0 = .ok (.aload_n 0, 1) := by decide +kernel
theorem d8_stop_1 : decode b8_stop 1 = .ok (.getfield 51, 3) := by decide +kernel
theorem d8_stop_4 : decode b8_stop 4 = .ok (.iconst 1, 1) := by decide +kernel
theorem d8_stop_5 : decode b8_stop 5 = .ok (.if_icmp .eq 11, 3) := by decide +kernel
theorem d8_stop_8 : decode b8_stop 8 = .ok (.new 55, 3) := by decide +kernel
theorem d8_stop_11 : decode b8_stop 11 = .ok (.dup, 1) := by decide +kernel
theorem d8_stop_12 : decode b8_stop 12 = .ok (.invokespecial 57, 3) := by decide +kernel
theorem d8_stop_15 : decode b8_stop 15 = .ok (.athrow, 1) := by decide +kernel
theorem d8_stop_16 : decode b8_stop 16 = .ok (.aload_n 0, 1) := by decide +kernel
theorem d8_stop_17 : decode b8_stop 17 = .ok (.iconst 0, 1) := by decide +kernel
theorem d8_stop_18 : decode b8_stop 18 = .ok (.putfield 51, 3) := by decide +kernel
theorem d8_stop_21 : decode b8_stop 21 = .ok (.aload_n 0, 1) := by decide +kernel
theorem d8_stop_22 : decode b8_stop 22 = .ok (.getfield 97, 3) := by decide +kernel
theorem d8_stop_25 : decode b8_stop 25 = .ok (.ireturn, 1) := by decide +kernel
theorem d8_result_0 : decode b8_result 0 = .ok (.aload_n 0, 1) := by decide +kernel
theorem d8_result_1 : decode b8_result 1 = .ok (.getfield 51, 3) := by decide +kernel
theorem d8_result_4 : decode b8_result 4 = .ok (.iconst 2, 1) := by decide +kernel
theorem d8_result_5 : decode b8_result 5 = .ok (.if_icmp .eq 11, 3) := by decide +kernel
theorem d8_result_8 : decode b8_result 8 = .ok (.new 55, 3) := by decide +kernel
theorem d8_result_11 : decode b8_result 11 = .ok (.dup, 1) := by decide +kernel
theorem d8_result_12 : decode b8_result 12 = .ok (.invokespecial 57, 3) := by decide +kernel
theorem d8_result_15 : decode b8_result 15 = .ok (.athrow, 1) := by decide +kernel
theorem d8_result_16 : decode b8_result 16 = .ok (.aload_n 0, 1) := by decide +kernel
theorem d8_result_17 : decode b8_result 17 = .ok (.getfield 37, 3) := by decide +kernel
theorem d8_result_20 : decode b8_result 20 = .ok (.invokevirtual 113, 3) := by decide +kernel
theorem d8_result_23 : decode b8_result 23 = .ok (.iconst 1, 1) := by decide +kernel
theorem d8_result_24 : decode b8_result 24 = .ok (.if_icmp .eq 22, 3) := by decide +kernel
theorem d8_result_27 : decode b8_result 27 = .ok (.aload_n 0, 1) := by decide +kernel
theorem d8_result_28 : decode b8_result 28 = .ok (.getfield 37, 3) := by decide +kernel
theorem d8_result_31 : decode b8_result 31 = .ok (.invokevirtual 113, 3) := by decide +kernel
theorem d8_result_34 : decode b8_result 34 = .ok (.iconst 2, 1) := by decide +kernel
theorem d8_result_35 : decode b8_result 35 = .ok (.if_icmp .eq 11, 3) := by decide +kernel
theorem d8_result_38 : decode b8_result 38 = .ok (.new 116, 3) := by decide +kernel
theorem d8_result_41 : decode b8_result 41 = .ok (.dup, 1) := by decide +kernel
theorem d8_result_42 : decode b8_result 42 = .ok (.invokespecial 118, 3) := by decide +kernel
theorem d8_result_45 : decode b8_result 45 = .ok (.athrow, 1) := by decide +kernel
theorem d8_result_46 : decode b8_result 46 = .ok (.aload_n 0, 1) := by decide +kernel
theorem d8_result_47 : decode b8_result 47 = .ok (.getfield 37, 3) := by decide +kernel
theorem d8_result_50 : decode b8_result 50 = .ok (.invokevirtual 119, 3) := by decide +kernel
theorem d8_result_53 : decode b8_result 53 = .ok (.lreturn, 1) := by decide +kernel
theorem d8_real_0 : decode b8_real 0 = .ok (.aload_n 0, 1) := by decide +kernel
theorem d8_real_1 : decode b8_real 1 = .ok (.getfield 51, 3) := by decide +kernel
theorem d8_real_4 : decode b8_real 4 = .ok (.iconst 2, 1) := by decide +kernel
theorem d8_real_5 : decode b8_real 5 = .ok (.if_icmp .eq 11, 3) := by decide +kernel
theorem d8_real_8 : decode b8_real 8 = .ok (.new 55, 3) := by decide +kernel
theorem d8_real_11 : decode b8_real 11 = .ok (.dup, 1) := by decide +kernel
theorem d8_real_12 : decode b8_real 12 = .ok (.invokespecial 57, 3) := by decide +kernel
theorem d8_real_15 : decode b8_real 15 = .ok (.athrow, 1) := by decide +kernel
theorem d8_real_16 : decode b8_real 16 = .ok (.aload_n 0, 1) := by decide +kernel
theorem d8_real_17 : decode b8_real 17 = .ok (.getfield 37, 3) := by decide +kernel
theorem d8_real_20 : decode b8_real 20 = .ok (.invokevirtual 113, 3) := by decide +kernel
theorem d8_real_23 : decode b8_real 23 = .ok (.iconst 3, 1) := by decide +kernel
theorem d8_real_24 : decode b8_real 24 = .ok (.if_icmp .eq 11, 3) := by decide +kernel
theorem d8_real_27 : decode b8_real 27 = .ok (.new 116, 3) := by decide +kernel
theorem d8_real_30 : decode b8_real 30 = .ok (.dup, 1) := by decide +kernel
theorem d8_real_31 : decode b8_real 31 = .ok (.invokespecial 118, 3) := by decide +kernel
theorem d8_real_34 : decode b8_real 34 = .ok (.athrow, 1) := by decide +kernel
theorem d8_real_35 : decode b8_real 35 = .ok (.aload_n 0, 1) := by decide +kernel
theorem d8_real_36 : decode b8_real 36 = .ok (.getfield 37, 3) := by decide +kernel
theorem d8_real_39 : decode b8_real 39 = .ok (.invokevirtual 123, 3) := by decide +kernel
theorem d8_real_42 : decode b8_real 42 = .ok (.dreturn, 1) := by decide +kernel
theorem d8_global_0 : decode b8_global 0 = .ok (.iload_n 1, 1) := by decide +kernel
theorem d8_global_1 : decode b8_global 1 = .ok (.ifCond .lt 8, 3) := by decide +kernel
theorem d8_global_4 : decode b8_global 4 = .ok (.iload_n 1, 1) := by decide +kernel
theorem d8_global_5 : decode b8_global 5 = .ok (.iconst 1, 1) := by decide +kernel
theorem d8_global_6 : decode b8_global 6 = .ok (.if_icmp .le 11, 3) := by decide +kernel
theorem d8_global_9 : decode b8_global 9 = .ok (.new 48, 3) := by decide +kernel
theorem d8_global_12 : decode b8_global 12 = .ok (.dup, 1) := by decide +kernel
theorem d8_global_13 : decode b8_global 13 = .ok (.invokespecial 50, 3) := by decide +kernel
theorem d8_global_16 : decode b8_global 16 = .ok (.athrow, 1) := by decide +kernel
theorem d8_global_17 : decode b8_global 17 = .ok (.aload_n 0, 1) := by decide +kernel
theorem d8_global_18 : decode b8_global 18 = .ok (.getfield 37, 3) := by decide +kernel
theorem d8_global_21 : decode b8_global 21 = .ok (.getfield 127, 3) := by decide +kernel
theorem d8_global_24 : decode b8_global 24 = .ok (.iload_n 1, 1) := by decide +kernel
theorem d8_global_25 : decode b8_global 25 = .ok (.invokevirtual 131, 3) := by decide +kernel
theorem d8_global_28 : decode b8_global 28 = .ok (.lreturn, 1) := by decide +kernel
theorem d8_realGlobal_0 : decode b8_realGlobal 0 = .ok (.aload_n 0, 1) := by decide +kernel
theorem d8_realGlobal_1 : decode b8_realGlobal 1 = .ok (.getfield 37, 3) := by decide +kernel
theorem d8_realGlobal_4 : decode b8_realGlobal 4 = .ok (.getfield 127, 3) := by decide +kernel
theorem d8_realGlobal_7 : decode b8_realGlobal 7 = .ok (.iconst 2, 1) := by decide +kernel
theorem d8_realGlobal_8 : decode b8_realGlobal 8 = .ok (.invokevirtual 137, 3) := by decide +kernel
theorem d8_realGlobal_11 : decode b8_realGlobal 11 = .ok (.dreturn, 1) := by decide +kernel
theorem d8_memory_0 : decode b8_memory 0 = .ok (.iload_n 1, 1) := by decide +kernel
theorem d8_memory_1 : decode b8_memory 1 = .ok (.ifCond .lt 9, 3) := by decide +kernel
theorem d8_memory_4 : decode b8_memory 4 = .ok (.iload_n 1, 1) := by decide +kernel
theorem d8_memory_5 : decode b8_memory 5 = .ok (.bipush 64, 2) := by decide +kernel
theorem d8_memory_7 : decode b8_memory 7 = .ok (.if_icmp .lt 11, 3) := by decide +kernel
theorem d8_memory_10 : decode b8_memory 10 = .ok (.new 48, 3) := by decide +kernel
theorem d8_memory_13 : decode b8_memory 13 = .ok (.dup, 1) := by decide +kernel
theorem d8_memory_14 : decode b8_memory 14 = .ok (.invokespecial 50, 3) := by decide +kernel
theorem d8_memory_17 : decode b8_memory 17 = .ok (.athrow, 1) := by decide +kernel
theorem d8_memory_18 : decode b8_memory 18 = .ok (.aload_n 0, 1) := by decide +kernel
theorem d8_memory_19 : decode b8_memory 19 = .ok (.getfield 37, 3) := by decide +kernel
theorem d8_memory_22 : decode b8_memory 22 = .ok (.getfield 143, 3) := by decide +kernel
theorem d8_memory_25 : decode b8_memory 25 = .ok (.iload_n 1, 1) := by decide +kernel
theorem d8_memory_26 : decode b8_memory 26 = .ok (.invokevirtual 147, 3) := by decide +kernel
theorem d8_memory_29 : decode b8_memory 29 = .ok (.ireturn, 1) := by decide +kernel
theorem d8_wipe_0 : decode b8_wipe 0 = .ok (.aload_n 0, 1) := by decide +kernel
theorem d8_wipe_1 : decode b8_wipe 1 = .ok (.getfield 51, 3) := by decide +kernel
theorem d8_wipe_4 : decode b8_wipe 4 = .ok (.iconst 1, 1) := by decide +kernel
theorem d8_wipe_5 : decode b8_wipe 5 = .ok (.if_icmp .ne 11, 3) := by decide +kernel
theorem d8_wipe_8 : decode b8_wipe 8 = .ok (.new 55, 3) := by decide +kernel
theorem d8_wipe_11 : decode b8_wipe 11 = .ok (.dup, 1) := by decide +kernel
theorem d8_wipe_12 : decode b8_wipe 12 = .ok (.invokespecial 57, 3) := by decide +kernel
theorem d8_wipe_15 : decode b8_wipe 15 = .ok (.athrow, 1) := by decide +kernel
theorem d8_wipe_16 : decode b8_wipe 16 = .ok (.aload_n 0, 1) := by decide +kernel
theorem d8_wipe_17 : decode b8_wipe 17 = .ok (.getfield 37, 3) := by decide +kernel
theorem d8_wipe_20 : decode b8_wipe 20 = .ok (.getfield 127, 3) := by decide +kernel
theorem d8_wipe_23 : decode b8_wipe 23 = .ok (.invokevirtual 150, 3) := by decide +kernel
theorem d8_wipe_26 : decode b8_wipe 26 = .ok (.aload_n 0, 1) := by decide +kernel
theorem d8_wipe_27 : decode b8_wipe 27 = .ok (.getfield 37, 3) := by decide +kernel
theorem d8_wipe_30 : decode b8_wipe 30 = .ok (.getfield 143, 3) := by decide +kernel
theorem d8_wipe_33 : decode b8_wipe 33 = .ok (.invokevirtual 153, 3) := by decide +kernel
theorem d8_wipe_36 : decode b8_wipe 36 = .ok (.ireturn, 1) := by decide +kernel
theorem d8_count_0 : decode b8_count 0 = .ok (.iload_n 1, 1) := by decide +kernel
theorem d8_count_1 : decode b8_count 1 = .ok (.ifCond .lt 9, 3) := by decide +kernel
theorem d8_count_4 : decode b8_count 4 = .ok (.iload_n 1, 1) := by decide +kernel
theorem d8_count_5 : decode b8_count 5 = .ok (.bipush 11, 2) := by decide +kernel
theorem d8_count_7 : decode b8_count 7 = .ok (.if_icmp .le 11, 3) := by decide +kernel
theorem d8_count_10 : decode b8_count 10 = .ok (.new 48, 3) := by decide +kernel
theorem d8_count_13 : decode b8_count 13 = .ok (.dup, 1) := by decide +kernel
theorem d8_count_14 : decode b8_count 14 = .ok (.invokespecial 50, 3) := by decide +kernel
theorem d8_count_17 : decode b8_count 17 = .ok (.athrow, 1) := by decide +kernel
theorem d8_count_18 : decode b8_count 18 = .ok (.iload_n 1, 1) := by decide +kernel
theorem d8_count_19 : decode b8_count 19 = .ok (.tableswitch 90 0 5 #[37, 42, 47, 67, 72, 85], 37) := by decide +kernel
theorem d8_count_56 : decode b8_count 56 = .ok (.aload_n 0, 1) := by decide +kernel
theorem d8_count_57 : decode b8_count 57 = .ok (.getfield 51, 3) := by decide +kernel
theorem d8_count_60 : decode b8_count 60 = .ok (.ireturn, 1) := by decide +kernel
theorem d8_count_61 : decode b8_count 61 = .ok (.aload_n 0, 1) := by decide +kernel
theorem d8_count_62 : decode b8_count 62 = .ok (.getfield 97, 3) := by decide +kernel
theorem d8_count_65 : decode b8_count 65 = .ok (.ireturn, 1) := by decide +kernel
theorem d8_count_66 : decode b8_count 66 = .ok (.aload_n 0, 1) := by decide +kernel
theorem d8_count_67 : decode b8_count 67 = .ok (.getfield 51, 3) := by decide +kernel
theorem d8_count_70 : decode b8_count 70 = .ok (.iconst 1, 1) := by decide +kernel
theorem d8_count_71 : decode b8_count 71 = .ok (.if_icmp .ne 13, 3) := by decide +kernel
theorem d8_count_74 : decode b8_count 74 = .ok (.aload_n 0, 1) := by decide +kernel
theorem d8_count_75 : decode b8_count 75 = .ok (.getfield 37, 3) := by decide +kernel
theorem d8_count_78 : decode b8_count 78 = .ok (.invokevirtual 155, 3) := by decide +kernel
theorem d8_count_81 : decode b8_count 81 = .ok (.goto 4, 3) := by decide +kernel
theorem d8_count_84 : decode b8_count 84 = .ok (.iconst 0, 1) := by decide +kernel
theorem d8_count_85 : decode b8_count 85 = .ok (.ireturn, 1) := by decide +kernel
theorem d8_count_86 : decode b8_count 86 = .ok (.aload_n 0, 1) := by decide +kernel
theorem d8_count_87 : decode b8_count 87 = .ok (.getfield 107, 3) := by decide +kernel
theorem d8_count_90 : decode b8_count 90 = .ok (.ireturn, 1) := by decide +kernel
theorem d8_count_91 : decode b8_count 91 = .ok (.aload_n 0, 1) := by decide +kernel
theorem d8_count_92 : decode b8_count 92 = .ok (.getfield 58, 3) := by decide +kernel
theorem d8_count_95 : decode b8_count 95 = .ok (.ifCond .eq 7, 3) := by decide +kernel
theorem d8_count_98 : decode b8_count 98 = .ok (.iconst 1, 1) := by decide +kernel
theorem d8_count_99 : decode b8_count 99 = .ok (.goto 4, 3) := by decide +kernel
theorem d8_count_102 : decode b8_count 102 = .ok (.iconst 0, 1) := by decide +kernel
theorem d8_count_103 : decode b8_count 103 = .ok (.ireturn, 1) := by decide +kernel
theorem d8_count_104 : decode b8_count 104 = .ok (.aload_n 0, 1) := by decide +kernel
theorem d8_count_105 : decode b8_count 105 = .ok (.getfield 87, 3) := by decide +kernel
theorem d8_count_108 : decode b8_count 108 = .ok (.ireturn, 1) := by decide +kernel
theorem d8_count_109 : decode b8_count 109 = .ok (.aload_n 0, 1) := by decide +kernel
theorem d8_count_110 : decode b8_count 110 = .ok (.getfield 11, 3) := by decide +kernel
theorem d8_count_113 : decode b8_count 113 = .ok (.iload_n 1, 1) := by decide +kernel
theorem d8_count_114 : decode b8_count 114 = .ok (.bipush 6, 2) := by decide +kernel
theorem d8_count_116 : decode b8_count 116 = .ok (.isub, 1) := by decide +kernel
theorem d8_count_117 : decode b8_count 117 = .ok (.aaload, 1) := by decide +kernel
theorem d8_count_118 : decode b8_count 118 = .ok (.invokevirtual 70, 3) := by decide +kernel
theorem d8_count_121 : decode b8_count 121 = .ok (.ireturn, 1) := by decide +kernel
theorem d8_isFunction_0 : decode b8_isFunction 0 = .ok (.iload_n 0, 1) := by decide +kernel
theorem d8_isFunction_1 : decode b8_isFunction 1 = .ok (.ifCond .lt 13, 3) := by decide +kernel
theorem d8_isFunction_4 : decode b8_isFunction 4 = .ok (.iload_n 0, 1) := by decide +kernel
theorem d8_isFunction_5 : decode b8_isFunction 5 = .ok (.bipush 6, 2) := by decide +kernel
theorem d8_isFunction_7 : decode b8_isFunction 7 = .ok (.if_icmp .ge 7, 3) := by decide +kernel
theorem d8_isFunction_10 : decode b8_isFunction 10 = .ok (.iconst 1, 1) := by decide +kernel
theorem d8_isFunction_11 : decode b8_isFunction 11 = .ok (.goto 4, 3) := by decide +kernel
theorem d8_isFunction_14 : decode b8_isFunction 14 = .ok (.iconst 0, 1) := by decide +kernel
theorem d8_isFunction_15 : decode b8_isFunction 15 = .ok (.ireturn, 1) := by decide +kernel
theorem d8_isKindRow_0 : decode b8_isKindRow 0 = .ok (.iload_n 0, 1) := by decide +kernel
theorem d8_isKindRow_1 : decode b8_isKindRow 1 = .ok (.ifCond .lt 10, 3) := by decide +kernel
theorem d8_isKindRow_4 : decode b8_isKindRow 4 = .ok (.iload_n 0, 1) := by decide +kernel
theorem d8_isKindRow_5 : decode b8_isKindRow 5 = .ok (.sipush 333, 3) := by decide +kernel
theorem d8_isKindRow_8 : decode b8_isKindRow 8 = .ok (.if_icmp .le 5, 3) := by decide +kernel
theorem d8_isKindRow_11 : decode b8_isKindRow 11 = .ok (.iconst 0, 1) := by decide +kernel
theorem d8_isKindRow_12 : decode b8_isKindRow 12 = .ok (.ireturn, 1) := by decide +kernel
theorem d8_isKindRow_13 : decode b8_isKindRow 13 = .ok (.iload_n 0, 1) := by decide +kernel
theorem d8_isKindRow_14 : decode b8_isKindRow 14 = .ok (.istore_n 1, 1) := by decide +kernel
theorem d8_isKindRow_15 : decode b8_isKindRow 15 = .ok (.iconst 0, 1) := by decide +kernel
theorem d8_isKindRow_16 : decode b8_isKindRow 16 = .ok (.istore_n 2, 1) := by decide +kernel
theorem d8_isKindRow_17 : decode b8_isKindRow 17 = .ok (.iload_n 2, 1) := by decide +kernel
theorem d8_isKindRow_18 : decode b8_isKindRow 18 = .ok (.iconst 3, 1) := by decide +kernel
theorem d8_isKindRow_19 : decode b8_isKindRow 19 = .ok (.if_icmp .ge 36, 3) := by decide +kernel
theorem d8_isKindRow_22 : decode b8_isKindRow 22 = .ok (.iload_n 1, 1) := by decide +kernel
theorem d8_isKindRow_23 : decode b8_isKindRow 23 = .ok (.ifCond .le 32, 3) := by decide +kernel
theorem d8_isKindRow_26 : decode b8_isKindRow 26 = .ok (.iload_n 1, 1) := by decide +kernel
theorem d8_isKindRow_27 : decode b8_isKindRow 27 = .ok (.bipush 10, 2) := by decide +kernel
theorem d8_isKindRow_29 : decode b8_isKindRow 29 = .ok (.irem, 1) := by decide +kernel
theorem d8_isKindRow_30 : decode b8_isKindRow 30 = .ok (.iconst 1, 1) := by decide +kernel
theorem d8_isKindRow_31 : decode b8_isKindRow 31 = .ok (.if_icmp .lt 11, 3) := by decide +kernel
theorem d8_isKindRow_34 : decode b8_isKindRow 34 = .ok (.iload_n 1, 1) := by decide +kernel
theorem d8_isKindRow_35 : decode b8_isKindRow 35 = .ok (.bipush 10, 2) := by decide +kernel
theorem d8_isKindRow_37 : decode b8_isKindRow 37 = .ok (.irem, 1) := by decide +kernel
theorem d8_isKindRow_38 : decode b8_isKindRow 38 = .ok (.iconst 3, 1) := by decide +kernel
theorem d8_isKindRow_39 : decode b8_isKindRow 39 = .ok (.if_icmp .le 5, 3) := by decide +kernel
theorem d8_isKindRow_42 : decode b8_isKindRow 42 = .ok (.iconst 0, 1) := by decide +kernel
theorem d8_isKindRow_43 : decode b8_isKindRow 43 = .ok (.ireturn, 1) := by decide +kernel
theorem d8_isKindRow_44 : decode b8_isKindRow 44 = .ok (.iload_n 1, 1) := by decide +kernel
theorem d8_isKindRow_45 : decode b8_isKindRow 45 = .ok (.bipush 10, 2) := by decide +kernel
theorem d8_isKindRow_47 : decode b8_isKindRow 47 = .ok (.idiv, 1) := by decide +kernel
theorem d8_isKindRow_48 : decode b8_isKindRow 48 = .ok (.istore_n 1, 1) := by decide +kernel
theorem d8_isKindRow_49 : decode b8_isKindRow 49 = .ok (.iinc 2 1, 3) := by decide +kernel
theorem d8_isKindRow_52 : decode b8_isKindRow 52 = .ok (.goto (-35), 3) := by decide +kernel
theorem d8_isKindRow_55 : decode b8_isKindRow 55 = .ok (.iconst 1, 1) := by decide +kernel
theorem d8_isKindRow_56 : decode b8_isKindRow 56 = .ok (.ireturn, 1) := by decide +kernel
theorem d8_phaseAfter_0 : decode b8_phaseAfter 0 = .ok (.iload_n 1, 1) := by decide +kernel
theorem d8_phaseAfter_1 : decode b8_phaseAfter 1 = .ok (.ifCond .eq 5, 3) := by decide +kernel
theorem d8_phaseAfter_4 : decode b8_phaseAfter 4 = .ok (.iconst 3, 1) := by decide +kernel
theorem d8_phaseAfter_5 : decode b8_phaseAfter 5 = .ok (.ireturn, 1) := by decide +kernel
theorem d8_phaseAfter_6 : decode b8_phaseAfter 6 = .ok (.aload_n 0, 1) := by decide +kernel
theorem d8_phaseAfter_7 : decode b8_phaseAfter 7 = .ok (.getfield 37, 3) := by decide +kernel
theorem d8_phaseAfter_10 : decode b8_phaseAfter 10 = .ok (.invokevirtual 155, 3) := by decide +kernel
theorem d8_phaseAfter_13 : decode b8_phaseAfter 13 = .ok (.ifCond .ne 7, 3) := by decide +kernel
theorem d8_phaseAfter_16 : decode b8_phaseAfter 16 = .ok (.iconst 2, 1) := by decide +kernel
theorem d8_phaseAfter_17 : decode b8_phaseAfter 17 = .ok (.goto 4, 3) := by decide +kernel
theorem d8_phaseAfter_20 : decode b8_phaseAfter 20 = .ok (.iconst 1, 1) := by decide +kernel
theorem d8_phaseAfter_21 : decode b8_phaseAfter 21 = .ok (.ireturn, 1) := by decide +kernel
theorem d8_throwTrap_0 : decode b8_throwTrap 0 = .ok (.iload_n 0, 1) := by decide +kernel
theorem d8_throwTrap_1 : decode b8_throwTrap 1 = .ok (.tableswitch 63 2 5 #[31, 39, 47, 55], 31) := by decide +kernel
theorem d8_throwTrap_32 : decode b8_throwTrap 32 = .ok (.new 158, 3) := by decide +kernel
theorem d8_throwTrap_35 : decode b8_throwTrap 35 = .ok (.dup, 1) := by decide +kernel
theorem d8_throwTrap_36 : decode b8_throwTrap 36 = .ok (.invokespecial 160, 3) := by decide +kernel
theorem d8_throwTrap_39 : decode b8_throwTrap 39 = .ok (.athrow, 1) := by decide +kernel
theorem d8_throwTrap_40 : decode b8_throwTrap 40 = .ok (.new 73, 3) := by decide +kernel
theorem d8_throwTrap_43 : decode b8_throwTrap 43 = .ok (.dup, 1) := by decide +kernel
theorem d8_throwTrap_44 : decode b8_throwTrap 44 = .ok (.invokespecial 75, 3) := by decide +kernel
theorem d8_throwTrap_47 : decode b8_throwTrap 47 = .ok (.athrow, 1) := by decide +kernel
theorem d8_throwTrap_48 : decode b8_throwTrap 48 = .ok (.new 116, 3) := by decide +kernel
theorem d8_throwTrap_51 : decode b8_throwTrap 51 = .ok (.dup, 1) := by decide +kernel
theorem d8_throwTrap_52 : decode b8_throwTrap 52 = .ok (.invokespecial 118, 3) := by decide +kernel
theorem d8_throwTrap_55 : decode b8_throwTrap 55 = .ok (.athrow, 1) := by decide +kernel
theorem d8_throwTrap_56 : decode b8_throwTrap 56 = .ok (.new 84, 3) := by decide +kernel
theorem d8_throwTrap_59 : decode b8_throwTrap 59 = .ok (.dup, 1) := by decide +kernel
theorem d8_throwTrap_60 : decode b8_throwTrap 60 = .ok (.invokespecial 86, 3) := by decide +kernel
theorem d8_throwTrap_63 : decode b8_throwTrap 63 = .ok (.athrow, 1) := by decide +kernel
theorem d8_throwTrap_64 : decode b8_throwTrap 64 = .ok (.new 161, 3) := by decide +kernel
theorem d8_throwTrap_67 : decode b8_throwTrap 67 = .ok (.dup, 1) := by decide +kernel
theorem d8_throwTrap_68 : decode b8_throwTrap 68 = .ok (.invokespecial 163, 3) := by decide +kernel
theorem d8_throwTrap_71 : decode b8_throwTrap 71 = .ok (.athrow, 1) := by decide +kernel
theorem d9_init_0 : decode b9_init 0 = .ok (.aload_n 0, 1) := by decide +kernel
theorem d9_init_1 : decode b9_init 1 = .ok (.invokespecial 1, 3) := by decide +kernel
theorem d9_init_4 : decode b9_init 4 = .ok (.aload_n 0, 1) := by decide +kernel
theorem d9_init_5 : decode b9_init 5 = .ok (.bipush 36, 2) := by decide +kernel
theorem d9_init_7 : decode b9_init 7 = .ok (.newarray .int, 2) := by decide +kernel
theorem d9_init_9 : decode b9_init 9 = .ok (.putfield 7, 3) := by decide +kernel
theorem d9_init_12 : decode b9_init 12 = .ok (.aload_n 0, 1) := by decide +kernel
theorem d9_init_13 : decode b9_init 13 = .ok (.bipush 6, 2) := by decide +kernel
theorem d9_init_15 : decode b9_init 15 = .ok (.newarray .int, 2) := by decide +kernel
theorem d9_init_17 : decode b9_init 17 = .ok (.putfield 13, 3) := by decide +kernel
theorem d9_init_20 : decode b9_init 20 = .ok (.aload_n 0, 1) := by decide +kernel
theorem d9_init_21 : decode b9_init 21 = .ok (.bipush 6, 2) := by decide +kernel
theorem d9_init_23 : decode b9_init 23 = .ok (.newarray .int, 2) := by decide +kernel
theorem d9_init_25 : decode b9_init 25 = .ok (.putfield 16, 3) := by decide +kernel
theorem d9_init_28 : decode b9_init 28 = .ok (.aload_n 0, 1) := by decide +kernel
theorem d9_init_29 : decode b9_init 29 = .ok (.bipush 6, 2) := by decide +kernel
theorem d9_init_31 : decode b9_init 31 = .ok (.newarray .int, 2) := by decide +kernel
theorem d9_init_33 : decode b9_init 33 = .ok (.putfield 19, 3) := by decide +kernel
theorem d9_init_36 : decode b9_init 36 = .ok (.aload_n 0, 1) := by decide +kernel
theorem d9_init_37 : decode b9_init 37 = .ok (.sipush 360, 3) := by decide +kernel
theorem d9_init_40 : decode b9_init 40 = .ok (.newarray .int, 2) := by decide +kernel
theorem d9_init_42 : decode b9_init 42 = .ok (.putfield 22, 3) := by decide +kernel
theorem d9_init_45 : decode b9_init 45 = .ok (.aload_n 0, 1) := by decide +kernel
theorem d9_init_46 : decode b9_init 46 = .ok (.bipush 6, 2) := by decide +kernel
theorem d9_init_48 : decode b9_init 48 = .ok (.newarray .int, 2) := by decide +kernel
theorem d9_init_50 : decode b9_init 50 = .ok (.putfield 25, 3) := by decide +kernel
theorem d9_init_53 : decode b9_init 53 = .ok (.aload_n 0, 1) := by decide +kernel
theorem d9_init_54 : decode b9_init 54 = .ok (.bipush 8, 2) := by decide +kernel
theorem d9_init_56 : decode b9_init 56 = .ok (.newarray .int, 2) := by decide +kernel
theorem d9_init_58 : decode b9_init 58 = .ok (.putfield 28, 3) := by decide +kernel
theorem d9_init_61 : decode b9_init 61 = .ok (.aload_n 0, 1) := by decide +kernel
theorem d9_init_62 : decode b9_init 62 = .ok (.bipush 64, 2) := by decide +kernel
theorem d9_init_64 : decode b9_init 64 = .ok (.newarray .int, 2) := by decide +kernel
theorem d9_init_66 : decode b9_init 66 = .ok (.putfield 31, 3) := by decide +kernel
theorem d9_init_69 : decode b9_init 69 = .ok (.aload_n 0, 1) := by decide +kernel
theorem d9_init_70 : decode b9_init 70 = .ok (.iconst 3, 1) := by decide +kernel
theorem d9_init_71 : decode b9_init 71 = .ok (.newarray .long, 2) := by decide +kernel
theorem d9_init_73 : decode b9_init 73 = .ok (.putfield 34, 3) := by decide +kernel
theorem d9_init_76 : decode b9_init 76 = .ok (.aload_n 0, 1) := by decide +kernel
theorem d9_init_77 : decode b9_init 77 = .ok (.iconst 3, 1) := by decide +kernel
theorem d9_init_78 : decode b9_init 78 = .ok (.newarray .int, 2) := by decide +kernel
theorem d9_init_80 : decode b9_init 80 = .ok (.putfield 38, 3) := by decide +kernel
theorem d9_init_83 : decode b9_init 83 = .ok (.aload_n 0, 1) := by decide +kernel
theorem d9_init_84 : decode b9_init 84 = .ok (.bipush 16, 2) := by decide +kernel
theorem d9_init_86 : decode b9_init 86 = .ok (.newarray .int, 2) := by decide +kernel
theorem d9_init_88 : decode b9_init 88 = .ok (.putfield 41, 3) := by decide +kernel
theorem d9_init_91 : decode b9_init 91 = .ok (.aload_n 0, 1) := by decide +kernel
theorem d9_init_92 : decode b9_init 92 = .ok (.bipush 60, 2) := by decide +kernel
theorem d9_init_94 : decode b9_init 94 = .ok (.newarray .int, 2) := by decide +kernel
theorem d9_init_96 : decode b9_init 96 = .ok (.putfield 44, 3) := by decide +kernel
theorem d9_init_99 : decode b9_init 99 = .ok (.aload_n 0, 1) := by decide +kernel
theorem d9_init_100 : decode b9_init 100 = .ok (.bipush 60, 2) := by decide +kernel
theorem d9_init_102 : decode b9_init 102 = .ok (.newarray .int, 2) := by decide +kernel
theorem d9_init_104 : decode b9_init 104 = .ok (.putfield 47, 3) := by decide +kernel
theorem d9_init_107 : decode b9_init 107 = .ok (.aload_n 0, 1) := by decide +kernel
theorem d9_init_108 : decode b9_init 108 = .ok (.bipush 60, 2) := by decide +kernel
theorem d9_init_110 : decode b9_init 110 = .ok (.newarray .int, 2) := by decide +kernel
theorem d9_init_112 : decode b9_init 112 = .ok (.putfield 50, 3) := by decide +kernel
theorem d9_init_115 : decode b9_init 115 = .ok (.aload_n 0, 1) := by decide +kernel
theorem d9_init_116 : decode b9_init 116 = .ok (.bipush 60, 2) := by decide +kernel
theorem d9_init_118 : decode b9_init 118 = .ok (.newarray .boolean, 2) := by decide +kernel
theorem d9_init_120 : decode b9_init 120 = .ok (.putfield 53, 3) := by decide +kernel
theorem d9_init_123 : decode b9_init 123 = .ok (.aload_n 0, 1) := by decide +kernel
theorem d9_init_124 : decode b9_init 124 = .ok (.bipush 60, 2) := by decide +kernel
theorem d9_init_126 : decode b9_init 126 = .ok (.newarray .boolean, 2) := by decide +kernel
theorem d9_init_128 : decode b9_init 128 = .ok (.putfield 57, 3) := by decide +kernel
theorem d9_init_131 : decode b9_init 131 = .ok (.aload_n 0, 1) := by decide +kernel
theorem d9_init_132 : decode b9_init 132 = .ok (.sipush 200, 3) := by decide +kernel
theorem d9_init_135 : decode b9_init 135 = .ok (.newarray .long, 2) := by decide +kernel
theorem d9_init_137 : decode b9_init 137 = .ok (.putfield 60, 3) := by decide +kernel
theorem d9_init_140 : decode b9_init 140 = .ok (.aload_n 0, 1) := by decide +kernel
theorem d9_init_141 : decode b9_init 141 = .ok (.sipush 200, 3) := by decide +kernel
theorem d9_init_144 : decode b9_init 144 = .ok (.newarray .double, 2) := by decide +kernel
theorem d9_init_146 : decode b9_init 146 = .ok (.putfield 63, 3) := by decide +kernel
theorem d9_init_149 : decode b9_init 149 = .ok (.aload_n 0, 1) := by decide +kernel
theorem d9_init_150 : decode b9_init 150 = .ok (.bipush 60, 2) := by decide +kernel
theorem d9_init_152 : decode b9_init 152 = .ok (.newarray .int, 2) := by decide +kernel
theorem d9_init_154 : decode b9_init 154 = .ok (.putfield 67, 3) := by decide +kernel
theorem d9_init_157 : decode b9_init 157 = .ok (.aload_n 0, 1) := by decide +kernel
theorem d9_init_158 : decode b9_init 158 = .ok (.bipush 36, 2) := by decide +kernel
theorem d9_init_160 : decode b9_init 160 = .ok (.newarray .long, 2) := by decide +kernel
theorem d9_init_162 : decode b9_init 162 = .ok (.putfield 70, 3) := by decide +kernel
theorem d9_init_165 : decode b9_init 165 = .ok (.aload_n 0, 1) := by decide +kernel
theorem d9_init_166 : decode b9_init 166 = .ok (.bipush 36, 2) := by decide +kernel
theorem d9_init_168 : decode b9_init 168 = .ok (.newarray .double, 2) := by decide +kernel
theorem d9_init_170 : decode b9_init 170 = .ok (.putfield 73, 3) := by decide +kernel
theorem d9_init_173 : decode b9_init 173 = .ok (.aload_n 0, 1) := by decide +kernel
theorem d9_init_174 : decode b9_init 174 = .ok (.bipush 6, 2) := by decide +kernel
theorem d9_init_176 : decode b9_init 176 = .ok (.newarray .int, 2) := by decide +kernel
theorem d9_init_178 : decode b9_init 178 = .ok (.putfield 76, 3) := by decide +kernel
theorem d9_init_181 : decode b9_init 181 = .ok (.aload_n 0, 1) := by decide +kernel
theorem d9_init_182 : decode b9_init 182 = .ok (.bipush 6, 2) := by decide +kernel
theorem d9_init_184 : decode b9_init 184 = .ok (.newarray .int, 2) := by decide +kernel
theorem d9_init_186 : decode b9_init 186 = .ok (.putfield 79, 3) := by decide +kernel
theorem d9_init_189 : decode b9_init 189 = .ok (.aload_n 0, 1) := by decide +kernel
theorem d9_init_190 : decode b9_init 190 = .ok (.bipush 6, 2) := by decide +kernel
theorem d9_init_192 : decode b9_init 192 = .ok (.newarray .int, 2) := by decide +kernel
theorem d9_init_194 : decode b9_init 194 = .ok (.putfield 82, 3) := by decide +kernel
theorem d9_init_197 : decode b9_init 197 = .ok (.aload_n 0, 1) := by decide +kernel
theorem d9_init_198 : decode b9_init 198 = .ok (.sipush 240, 3) := by decide +kernel
theorem d9_init_201 : decode b9_init 201 = .ok (.newarray .int, 2) := by decide +kernel
theorem d9_init_203 : decode b9_init 203 = .ok (.putfield 85, 3) := by decide +kernel
theorem d9_init_206 : decode b9_init 206 = .ok (.iconst 0, 1) := by decide +kernel
theorem d9_init_207 : decode b9_init 207 = .ok (.istore_n 1, 1) := by decide +kernel
theorem d9_init_208 : decode b9_init 208 = .ok (.iload_n 1, 1) := by decide +kernel
theorem d9_init_209 : decode b9_init 209 = .ok (.bipush 8, 2) := by decide +kernel
theorem d9_init_211 : decode b9_init 211 = .ok (.if_icmp .ge 16, 3) := by decide +kernel
theorem d9_init_214 : decode b9_init 214 = .ok (.aload_n 0, 1) := by decide +kernel
theorem d9_init_215 : decode b9_init 215 = .ok (.getfield 28, 3) := by decide +kernel
theorem d9_init_218 : decode b9_init 218 = .ok (.iload_n 1, 1) := by decide +kernel
theorem d9_init_219 : decode b9_init 219 = .ok (.iconst (-1), 1) := by decide +kernel
theorem d9_init_220 : decode b9_init 220 = .ok (.iastore, 1) := by decide +kernel
theorem d9_init_221 : decode b9_init 221 = .ok (.iinc 1 1, 3) := by decide +kernel
theorem d9_init_224 : decode b9_init 224 = .ok (.goto (-16), 3) := by decide +kernel
theorem d9_init_227 : decode b9_init 227 = .ok (.return_, 1) := by decide +kernel
theorem d9_thrown_0 : decode b9_thrown 0 = .ok (.aload_n 0, 1) := by decide +kernel
theorem d9_thrown_1 : decode b9_thrown 1 = .ok (.getfield 88, 3) := by decide +kernel
theorem d9_thrown_4 : decode b9_thrown 4 = .ok (.ireturn, 1) := by decide +kernel
theorem d9_in_0 : decode b9_in 0 = .ok (.iload_n 0, 1) := by decide +kernel
theorem d9_in_1 : decode b9_in 1 = .ok (.iload_n 1, 1) := by decide +kernel
theorem d9_in_2 : decode b9_in 2 = .ok (.if_icmp .lt 12, 3) := by decide +kernel
theorem d9_in_5 : decode b9_in 5 = .ok (.iload_n 0, 1) := by decide +kernel
theorem d9_in_6 : decode b9_in 6 = .ok (.iload_n 2, 1) := by decide +kernel
theorem d9_in_7 : decode b9_in 7 = .ok (.if_icmp .gt 7, 3) := by decide +kernel
theorem d9_in_10 : decode b9_in 10 = .ok (.iconst 1, 1) := by decide +kernel
theorem d9_in_11 : decode b9_in 11 = .ok (.goto 4, 3) := by decide +kernel
theorem d9_in_14 : decode b9_in 14 = .ok (.iconst 0, 1) := by decide +kernel
theorem d9_in_15 : decode b9_in 15 = .ok (.ireturn, 1) := by decide +kernel
theorem d9_good_0 : decode b9_good 0 = .ok (.aload_n 0, 1) := by decide +kernel
theorem d9_good_1 : decode b9_good 1 = .ok (.iload_n 1, 1) := by decide +kernel
theorem d9_good_2 : decode b9_good 2 = .ok (.ifCond .eq 7, 3) := by decide +kernel
theorem d9_good_5 : decode b9_good 5 = .ok (.iconst 0, 1) := by decide +kernel
theorem d9_good_6 : decode b9_good 6 = .ok (.goto 4, 3) := by decide +kernel
theorem d9_good_9 : decode b9_good 9 = .ok (.iload_n 2, 1) := by decide +kernel
theorem d9_good_10 : decode b9_good 10 = .ok (.putfield 88, 3) := by decide +kernel
theorem d9_good_13 : decode b9_good 13 = .ok (.iload_n 1, 1) := by decide +kernel
theorem d9_good_14 : decode b9_good 14 = .ok (.ireturn, 1) := by decide +kernel
theorem d9_digits_0 : decode b9_digits 0 = .ok (.iload_n 0, 1) := by decide +kernel
theorem d9_digits_1 : decode b9_digits 1 = .ok (.ifCond .ne 5, 3) := by decide +kernel
theorem d9_digits_4 : decode b9_digits 4 = .ok (.iconst 0, 1) := by decide +kernel
theorem d9_digits_5 : decode b9_digits 5 = .ok (.ireturn, 1) := by decide +kernel
theorem d9_digits_6 : decode b9_digits 6 = .ok (.iload_n 0, 1) := by decide +kernel
theorem d9_digits_7 : decode b9_digits 7 = .ok (.ifCond .lt 10, 3) := by decide +kernel
theorem d9_digits_10 : decode b9_digits 10 = .ok (.iload_n 0, 1) := by decide +kernel
theorem d9_digits_11 : decode b9_digits 11 = .ok (.sipush 333, 3) := by decide +kernel
theorem d9_digits_14 : decode b9_digits 14 = .ok (.if_icmp .le 5, 3) := by decide +kernel
theorem d9_digits_17 : decode b9_digits 17 = .ok (.iconst (-1), 1) := by decide +kernel
theorem d9_digits_18 : decode b9_digits 18 = .ok (.ireturn, 1) := by decide +kernel
theorem d9_digits_19 : decode b9_digits 19 = .ok (.iconst 0, 1) := by decide +kernel
theorem d9_digits_20 : decode b9_digits 20 = .ok (.istore_n 1, 1) := by decide +kernel
theorem d9_digits_21 : decode b9_digits 21 = .ok (.iload_n 0, 1) := by decide +kernel
theorem d9_digits_22 : decode b9_digits 22 = .ok (.istore_n 2, 1) := by decide +kernel
theorem d9_digits_23 : decode b9_digits 23 = .ok (.iload_n 2, 1) := by decide +kernel
theorem d9_digits_24 : decode b9_digits 24 = .ok (.ifCond .le 28, 3) := by decide +kernel
theorem d9_digits_27 : decode b9_digits 27 = .ok (.iload_n 2, 1) := by decide +kernel
theorem d9_digits_28 : decode b9_digits 28 = .ok (.bipush 10, 2) := by decide +kernel
theorem d9_digits_30 : decode b9_digits 30 = .ok (.irem, 1) := by decide +kernel
theorem d9_digits_31 : decode b9_digits 31 = .ok (.iconst 1, 1) := by decide +kernel
theorem d9_digits_32 : decode b9_digits 32 = .ok (.iconst 3, 1) := by decide +kernel
theorem d9_digits_33 : decode b9_digits 33 = .ok (.invokestatic 92, 3) := by decide +kernel
theorem d9_digits_36 : decode b9_digits 36 = .ok (.ifCond .ne 5, 3) := by decide +kernel
theorem d9_digits_39 : decode b9_digits 39 = .ok (.iconst (-1), 1) := by decide +kernel
theorem d9_digits_40 : decode b9_digits 40 = .ok (.ireturn, 1) := by decide +kernel
theorem d9_digits_41 : decode b9_digits 41 = .ok (.iinc 1 1, 3) := by decide +kernel
theorem d9_digits_44 : decode b9_digits 44 = .ok (.iload_n 2, 1) := by decide +kernel
theorem d9_digits_45 : decode b9_digits 45 = .ok (.bipush 10, 2) := by decide +kernel
theorem d9_digits_47 : decode b9_digits 47 = .ok (.idiv, 1) := by decide +kernel
theorem d9_digits_48 : decode b9_digits 48 = .ok (.istore_n 2, 1) := by decide +kernel
theorem d9_digits_49 : decode b9_digits 49 = .ok (.goto (-26), 3) := by decide +kernel
theorem d9_digits_52 : decode b9_digits 52 = .ok (.iload_n 1, 1) := by decide +kernel
theorem d9_digits_53 : decode b9_digits 53 = .ok (.ireturn, 1) := by decide +kernel
theorem d9_setKinds_0 : decode b9_setKinds 0 = .ok (.iload_n 3, 1) := by decide +kernel
theorem d9_setKinds_1 : decode b9_setKinds 1 = .ok (.istore 5, 2) := by decide +kernel
theorem d9_setKinds_3 : decode b9_setKinds 3 = .ok (.iload 4, 2) := by decide +kernel
theorem d9_setKinds_5 : decode b9_setKinds 5 = .ok (.iconst 1, 1) := by decide +kernel
theorem d9_setKinds_6 : decode b9_setKinds 6 = .ok (.isub, 1) := by decide +kernel
theorem d9_setKinds_7 : decode b9_setKinds 7 = .ok (.istore 6, 2) := by decide +kernel
theorem d9_setKinds_9 : decode b9_setKinds 9 = .ok (.iload 6, 2) := by decide +kernel
theorem d9_setKinds_11 : decode b9_setKinds 11 = .ok (.ifCond .lt 35, 3) := by decide +kernel
theorem d9_setKinds_14 : decode b9_setKinds 14 = .ok (.aload_n 0, 1) := by decide +kernel
theorem d9_setKinds_15 : decode b9_setKinds 15 = .ok (.getfield 7, 3) := by decide +kernel
theorem d9_setKinds_18 : decode b9_setKinds 18 = .ok (.bipush 6, 2) := by decide +kernel
theorem d9_setKinds_20 : decode b9_setKinds 20 = .ok (.iload_n 1, 1) := by decide +kernel
theorem d9_setKinds_21 : decode b9_setKinds 21 = .ok (.imul, 1) := by decide +kernel
theorem d9_setKinds_22 : decode b9_setKinds 22 = .ok (.iload_n 2, 1) := by decide +kernel
theorem d9_setKinds_23 : decode b9_setKinds 23 = .ok (.iadd, 1) := by decide +kernel
theorem d9_setKinds_24 : decode b9_setKinds 24 = .ok (.iload 6, 2) := by decide +kernel
theorem d9_setKinds_26 : decode b9_setKinds 26 = .ok (.iadd, 1) := by decide +kernel
theorem d9_setKinds_27 : decode b9_setKinds 27 = .ok (.iload 5, 2) := by decide +kernel
theorem d9_setKinds_29 : decode b9_setKinds 29 = .ok (.bipush 10, 2) := by decide +kernel
theorem d9_setKinds_31 : decode b9_setKinds 31 = .ok (.irem, 1) := by decide +kernel
theorem d9_setKinds_32 : decode b9_setKinds 32 = .ok (.iastore, 1) := by decide +kernel
theorem d9_setKinds_33 : decode b9_setKinds 33 = .ok (.iload 5, 2) := by decide +kernel
theorem d9_setKinds_35 : decode b9_setKinds 35 = .ok (.bipush 10, 2) := by decide +kernel
theorem d9_setKinds_37 : decode b9_setKinds 37 = .ok (.idiv, 1) := by decide +kernel
theorem d9_setKinds_38 : decode b9_setKinds 38 = .ok (.istore 5, 2) := by decide +kernel
theorem d9_setKinds_40 : decode b9_setKinds 40 = .ok (.iinc 6 (-1), 3) := by decide +kernel
theorem d9_setKinds_43 : decode b9_setKinds 43 = .ok (.goto (-34), 3) := by decide +kernel
theorem d9_setKinds_46 : decode b9_setKinds 46 = .ok (.return_, 1) := by decide +kernel
theorem d9_shape_0 : decode b9_shape 0 = .ok (.iload_n 2, 1) := by decide +kernel
theorem d9_shape_1 : decode b9_shape 1 = .ok (.invokestatic 96, 3) := by decide +kernel
theorem d9_shape_4 : decode b9_shape 4 = .ok (.istore 5, 2) := by decide +kernel
theorem d9_shape_6 : decode b9_shape 6 = .ok (.iload 4, 2) := by decide +kernel
theorem d9_shape_8 : decode b9_shape 8 = .ok (.invokestatic 96, 3) := by decide +kernel
theorem d9_shape_11 : decode b9_shape 11 = .ok (.istore 6, 2) := by decide +kernel
theorem d9_shape_13 : decode b9_shape 13 = .ok (.aload_n 0, 1) := by decide +kernel
theorem d9_shape_14 : decode b9_shape 14 = .ok (.iload_n 1, 1) := by decide +kernel
theorem d9_shape_15 : decode b9_shape 15 = .ok (.iconst 0, 1) := by decide +kernel
theorem d9_shape_16 : decode b9_shape 16 = .ok (.iconst 5, 1) := by decide +kernel
theorem d9_shape_17 : decode b9_shape 17 = .ok (.invokestatic 92, 3) := by decide +kernel
theorem d9_shape_20 : decode b9_shape 20 = .ok (.ifCond .eq 26, 3) := by decide +kernel
theorem d9_shape_23 : decode b9_shape 23 = .ok (.iload 5, 2) := by decide +kernel
theorem d9_shape_25 : decode b9_shape 25 = .ok (.ifCond .lt 21, 3) := by decide +kernel
theorem d9_shape_28 : decode b9_shape 28 = .ok (.iload 6, 2) := by decide +kernel
theorem d9_shape_30 : decode b9_shape 30 = .ok (.ifCond .lt 16, 3) := by decide +kernel
theorem d9_shape_33 : decode b9_shape 33 = .ok (.iload_n 3, 1) := by decide +kernel
theorem d9_shape_34 : decode b9_shape 34 = .ok (.iconst 0, 1) := by decide +kernel
theorem d9_shape_35 : decode b9_shape 35 = .ok (.iconst 3, 1) := by decide +kernel
theorem d9_shape_36 : decode b9_shape 36 = .ok (.invokestatic 92, 3) := by decide +kernel
theorem d9_shape_39 : decode b9_shape 39 = .ok (.ifCond .eq 7, 3) := by decide +kernel
theorem d9_shape_42 : decode b9_shape 42 = .ok (.iconst 1, 1) := by decide +kernel
theorem d9_shape_43 : decode b9_shape 43 = .ok (.goto 4, 3) := by decide +kernel
theorem d9_shape_46 : decode b9_shape 46 = .ok (.iconst 0, 1) := by decide +kernel
theorem d9_shape_47 : decode b9_shape 47 = .ok (.iconst 1, 1) := by decide +kernel
theorem d9_shape_48 : decode b9_shape 48 = .ok (.invokevirtual 100, 3) := by decide +kernel
theorem d9_shape_51 : decode b9_shape 51 = .ok (.ifCond .ne 5, 3) := by decide +kernel
theorem d9_shape_54 : decode b9_shape 54 = .ok (.iconst 0, 1) := by decide +kernel
theorem d9_shape_55 : decode b9_shape 55 = .ok (.ireturn, 1) := by decide +kernel
theorem d9_shape_56 : decode b9_shape 56 = .ok (.aload_n 0, 1) := by decide +kernel
theorem d9_shape_57 : decode b9_shape 57 = .ok (.aload_n 0, 1) := by decide +kernel
theorem d9_shape_58 : decode b9_shape 58 = .ok (.getfield 104, 3) := by decide +kernel
theorem d9_shape_61 : decode b9_shape 61 = .ok (.iconst 1, 1) := by decide +kernel
theorem d9_shape_62 : decode b9_shape 62 = .ok (.if_icmp .eq 7, 3) := by decide +kernel
theorem d9_shape_65 : decode b9_shape 65 = .ok (.iconst 1, 1) := by decide +kernel
theorem d9_shape_66 : decode b9_shape 66 = .ok (.goto 4, 3) := by decide +kernel
theorem d9_shape_69 : decode b9_shape 69 = .ok (.iconst 0, 1) := by decide +kernel
theorem d9_shape_70 : decode b9_shape 70 = .ok (.iconst 2, 1) := by decide +kernel
theorem d9_shape_71 : decode b9_shape 71 = .ok (.invokevirtual 100, 3) := by decide +kernel
theorem d9_shape_74 : decode b9_shape 74 = .ok (.ifCond .ne 5, 3) := by decide +kernel
theorem d9_shape_77 : decode b9_shape 77 = .ok (.iconst 0, 1) := by decide +kernel
theorem d9_shape_78 : decode b9_shape 78 = .ok (.ireturn, 1) := by decide +kernel
theorem d9_shape_79 : decode b9_shape 79 = .ok (.aload_n 0, 1) := by decide +kernel
theorem d9_shape_80 : decode b9_shape 80 = .ok (.iload_n 1, 1) := by decide +kernel
theorem d9_shape_81 : decode b9_shape 81 = .ok (.iconst 0, 1) := by decide +kernel
theorem d9_shape_82 : decode b9_shape 82 = .ok (.iload_n 2, 1) := by decide +kernel
theorem d9_shape_83 : decode b9_shape 83 = .ok (.iload 5, 2) := by decide +kernel
theorem d9_shape_85 : decode b9_shape 85 = .ok (.invokevirtual 107, 3) := by decide +kernel
theorem d9_shape_88 : decode b9_shape 88 = .ok (.aload_n 0, 1) := by decide +kernel
theorem d9_shape_89 : decode b9_shape 89 = .ok (.iload_n 1, 1) := by decide +kernel
theorem d9_shape_90 : decode b9_shape 90 = .ok (.iload 5, 2) := by decide +kernel
theorem d9_shape_92 : decode b9_shape 92 = .ok (.iload 4, 2) := by decide +kernel
theorem d9_shape_94 : decode b9_shape 94 = .ok (.iload 6, 2) := by decide +kernel
theorem d9_shape_96 : decode b9_shape 96 = .ok (.invokevirtual 107, 3) := by decide +kernel
theorem d9_shape_99 : decode b9_shape 99 = .ok (.aload_n 0, 1) := by decide +kernel
theorem d9_shape_100 : decode b9_shape 100 = .ok (.getfield 13, 3) := by decide +kernel
theorem d9_shape_103 : decode b9_shape 103 = .ok (.iload_n 1, 1) := by decide +kernel
theorem d9_shape_104 : decode b9_shape 104 = .ok (.iload 5, 2) := by decide +kernel
theorem d9_shape_106 : decode b9_shape 106 = .ok (.iastore, 1) := by decide +kernel
theorem d9_shape_107 : decode b9_shape 107 = .ok (.aload_n 0, 1) := by decide +kernel
theorem d9_shape_108 : decode b9_shape 108 = .ok (.getfield 16, 3) := by decide +kernel
theorem d9_shape_111 : decode b9_shape 111 = .ok (.iload_n 1, 1) := by decide +kernel
theorem d9_shape_112 : decode b9_shape 112 = .ok (.iload 5, 2) := by decide +kernel
theorem d9_shape_114 : decode b9_shape 114 = .ok (.iload 6, 2) := by decide +kernel
theorem d9_shape_116 : decode b9_shape 116 = .ok (.iadd, 1) := by decide +kernel
theorem d9_shape_117 : decode b9_shape 117 = .ok (.iastore, 1) := by decide +kernel
theorem d9_shape_118 : decode b9_shape 118 = .ok (.aload_n 0, 1) := by decide +kernel
theorem d9_shape_119 : decode b9_shape 119 = .ok (.getfield 19, 3) := by decide +kernel
theorem d9_shape_122 : decode b9_shape 122 = .ok (.iload_n 1, 1) := by decide +kernel
theorem d9_shape_123 : decode b9_shape 123 = .ok (.iload_n 3, 1) := by decide +kernel
theorem d9_shape_124 : decode b9_shape 124 = .ok (.iastore, 1) := by decide +kernel
theorem d9_shape_125 : decode b9_shape 125 = .ok (.aload_n 0, 1) := by decide +kernel
theorem d9_shape_126 : decode b9_shape 126 = .ok (.getfield 25, 3) := by decide +kernel
theorem d9_shape_129 : decode b9_shape 129 = .ok (.iload_n 1, 1) := by decide +kernel
theorem d9_shape_130 : decode b9_shape 130 = .ok (.iconst 0, 1) := by decide +kernel
theorem d9_shape_131 : decode b9_shape 131 = .ok (.iastore, 1) := by decide +kernel
theorem d9_shape_132 : decode b9_shape 132 = .ok (.aload_n 0, 1) := by decide +kernel
theorem d9_shape_133 : decode b9_shape 133 = .ok (.iconst 0, 1) := by decide +kernel
theorem d9_shape_134 : decode b9_shape 134 = .ok (.putfield 111, 3) := by decide +kernel
theorem d9_shape_137 : decode b9_shape 137 = .ok (.iload 5, 2) := by decide +kernel
theorem d9_shape_139 : decode b9_shape 139 = .ok (.iload 6, 2) := by decide +kernel
theorem d9_shape_141 : decode b9_shape 141 = .ok (.iadd, 1) := by decide +kernel
theorem d9_shape_142 : decode b9_shape 142 = .ok (.ireturn, 1) := by decide +kernel
theorem d9_code_0 : decode b9_code 0 = .ok (.aload_n 0, 1) := by decide +kernel
theorem d9_code_1 : decode b9_code 1 = .ok (.iload_n 1, 1) := by decide +kernel
theorem d9_code_2 : decode b9_code 2 = .ok (.iconst 0, 1) := by decide +kernel
theorem d9_code_3 : decode b9_code 3 = .ok (.iconst 5, 1) := by decide +kernel
theorem d9_code_4 : decode b9_code 4 = .ok (.invokestatic 92, 3) := by decide +kernel
theorem d9_code_7 : decode b9_code 7 = .ok (.ifCond .eq 18, 3) := by decide +kernel
theorem d9_code_10 : decode b9_code 10 = .ok (.iload 4, 2) := by decide +kernel
theorem d9_code_12 : decode b9_code 12 = .ok (.iconst 1, 1) := by decide +kernel
theorem d9_code_13 : decode b9_code 13 = .ok (.bipush 8, 2) := by decide +kernel
theorem d9_code_15 : decode b9_code 15 = .ok (.invokestatic 92, 3) := by decide +kernel
theorem d9_code_18 : decode b9_code 18 = .ok (.ifCond .eq 7, 3) := by decide +kernel
theorem d9_code_21 : decode b9_code 21 = .ok (.iconst 1, 1) := by decide +kernel
theorem d9_code_22 : decode b9_code 22 = .ok (.goto 4, 3) := by decide +kernel
theorem d9_code_25 : decode b9_code 25 = .ok (.iconst 0, 1) := by decide +kernel
theorem d9_code_26 : decode b9_code 26 = .ok (.iconst 1, 1) := by decide +kernel
theorem d9_code_27 : decode b9_code 27 = .ok (.invokevirtual 100, 3) := by decide +kernel
theorem d9_code_30 : decode b9_code 30 = .ok (.ifCond .ne 5, 3) := by decide +kernel
theorem d9_code_33 : decode b9_code 33 = .ok (.iconst 0, 1) := by decide +kernel
theorem d9_code_34 : decode b9_code 34 = .ok (.ireturn, 1) := by decide +kernel
theorem d9_code_35 : decode b9_code 35 = .ok (.aload_n 0, 1) := by decide +kernel
theorem d9_code_36 : decode b9_code 36 = .ok (.aload_n 0, 1) := by decide +kernel
theorem d9_code_37 : decode b9_code 37 = .ok (.getfield 104, 3) := by decide +kernel
theorem d9_code_40 : decode b9_code 40 = .ok (.iconst 1, 1) := by decide +kernel
theorem d9_code_41 : decode b9_code 41 = .ok (.if_icmp .eq 7, 3) := by decide +kernel
theorem d9_code_44 : decode b9_code 44 = .ok (.iconst 1, 1) := by decide +kernel
theorem d9_code_45 : decode b9_code 45 = .ok (.goto 4, 3) := by decide +kernel
theorem d9_code_48 : decode b9_code 48 = .ok (.iconst 0, 1) := by decide +kernel
theorem d9_code_49 : decode b9_code 49 = .ok (.iconst 2, 1) := by decide +kernel
theorem d9_code_50 : decode b9_code 50 = .ok (.invokevirtual 100, 3) := by decide +kernel
theorem d9_code_53 : decode b9_code 53 = .ok (.ifCond .ne 5, 3) := by decide +kernel
theorem d9_code_56 : decode b9_code 56 = .ok (.iconst 0, 1) := by decide +kernel
theorem d9_code_57 : decode b9_code 57 = .ok (.ireturn, 1) := by decide +kernel
theorem d9_code_58 : decode b9_code 58 = .ok (.aload_n 0, 1) := by decide +kernel
theorem d9_code_59 : decode b9_code 59 = .ok (.aload_n 0, 1) := by decide +kernel
theorem d9_code_60 : decode b9_code 60 = .ok (.getfield 25, 3) := by decide +kernel
theorem d9_code_63 : decode b9_code 63 = .ok (.iload_n 1, 1) := by decide +kernel
theorem d9_code_64 : decode b9_code 64 = .ok (.iaload, 1) := by decide +kernel
theorem d9_code_65 : decode b9_code 65 = .ok (.iload 4, 2) := by decide +kernel
theorem d9_code_67 : decode b9_code 67 = .ok (.iadd, 1) := by decide +kernel
theorem d9_code_68 : decode b9_code 68 = .ok (.bipush 60, 2) := by decide +kernel
theorem d9_code_70 : decode b9_code 70 = .ok (.if_icmp .gt 7, 3) := by decide +kernel
theorem d9_code_73 : decode b9_code 73 = .ok (.iconst 1, 1) := by decide +kernel
theorem d9_code_74 : decode b9_code 74 = .ok (.goto 4, 3) := by decide +kernel
theorem d9_code_77 : decode b9_code 77 = .ok (.iconst 0, 1) := by decide +kernel
theorem d9_code_78 : decode b9_code 78 = .ok (.iconst 3, 1) := by decide +kernel
theorem d9_code_79 : decode b9_code 79 = .ok (.invokevirtual 100, 3) := by decide +kernel
theorem d9_code_82 : decode b9_code 82 = .ok (.ifCond .ne 5, 3) := by decide +kernel
theorem d9_code_85 : decode b9_code 85 = .ok (.iconst 0, 1) := by decide +kernel
theorem d9_code_86 : decode b9_code 86 = .ok (.ireturn, 1) := by decide +kernel
theorem d9_code_87 : decode b9_code 87 = .ok (.iload 4, 2) := by decide +kernel
theorem d9_code_89 : decode b9_code 89 = .ok (.iconst 1, 1) := by decide +kernel
theorem d9_code_90 : decode b9_code 90 = .ok (.isub, 1) := by decide +kernel
theorem d9_code_91 : decode b9_code 91 = .ok (.istore 5, 2) := by decide +kernel
theorem d9_code_93 : decode b9_code 93 = .ok (.iload 5, 2) := by decide +kernel
theorem d9_code_95 : decode b9_code 95 = .ok (.ifCond .lt 47, 3) := by decide +kernel
theorem d9_code_98 : decode b9_code 98 = .ok (.aload_n 0, 1) := by decide +kernel
theorem d9_code_99 : decode b9_code 99 = .ok (.getfield 22, 3) := by decide +kernel
theorem d9_code_102 : decode b9_code 102 = .ok (.bipush 60, 2) := by decide +kernel
theorem d9_code_104 : decode b9_code 104 = .ok (.iload_n 1, 1) := by decide +kernel
theorem d9_code_105 : decode b9_code 105 = .ok (.imul, 1) := by decide +kernel
theorem d9_code_106 : decode b9_code 106 = .ok (.aload_n 0, 1) := by decide +kernel
theorem d9_code_107 : decode b9_code 107 = .ok (.getfield 25, 3) := by decide +kernel
theorem d9_code_110 : decode b9_code 110 = .ok (.iload_n 1, 1) := by decide +kernel
theorem d9_code_111 : decode b9_code 111 = .ok (.iaload, 1) := by decide +kernel
theorem d9_code_112 : decode b9_code 112 = .ok (.iadd, 1) := by decide +kernel
theorem d9_code_113 : decode b9_code 113 = .ok (.lload_n 2, 1) := by decide +kernel
theorem d9_code_114 : decode b9_code 114 = .ok (.bipush 8, 2) := by decide +kernel
theorem d9_code_116 : decode b9_code 116 = .ok (.iload 5, 2) := by decide +kernel
theorem d9_code_118 : decode b9_code 118 = .ok (.imul, 1) := by decide +kernel
theorem d9_code_119 : decode b9_code 119 = .ok (.lshr, 1) := by decide +kernel
theorem d9_code_120 : decode b9_code 120 = .ok (.l2i, 1) := by decide +kernel
theorem d9_code_121 : decode b9_code 121 = .ok (.sipush 255, 3) := by decide +kernel
theorem d9_code_124 : decode b9_code 124 = .ok (.iand, 1) := by decide +kernel
theorem d9_code_125 : decode b9_code 125 = .ok (.iastore, 1) := by decide +kernel
theorem d9_code_126 : decode b9_code 126 = .ok (.aload_n 0, 1) := by decide +kernel
theorem d9_code_127 : decode b9_code 127 = .ok (.getfield 25, 3) := by decide +kernel
theorem d9_code_130 : decode b9_code 130 = .ok (.iload_n 1, 1) := by decide +kernel
theorem d9_code_131 : decode b9_code 131 = .ok (.dup2, 1) := by decide +kernel
theorem d9_code_132 : decode b9_code 132 = .ok (.iaload, 1) := by decide +kernel
theorem d9_code_133 : decode b9_code 133 = .ok (.iconst 1, 1) := by decide +kernel
theorem d9_code_134 : decode b9_code 134 = .ok (.iadd, 1) := by decide +kernel
theorem d9_code_135 : decode b9_code 135 = .ok (.iastore, 1) := by decide +kernel
theorem d9_code_136 : decode b9_code 136 = .ok (.iinc 5 (-1), 3) := by decide +kernel
theorem d9_code_139 : decode b9_code 139 = .ok (.goto (-46), 3) := by decide +kernel
theorem d9_code_142 : decode b9_code 142 = .ok (.aload_n 0, 1) := by decide +kernel
theorem d9_code_143 : decode b9_code 143 = .ok (.iconst 0, 1) := by decide +kernel
theorem d9_code_144 : decode b9_code 144 = .ok (.putfield 111, 3) := by decide +kernel
theorem d9_code_147 : decode b9_code 147 = .ok (.aload_n 0, 1) := by decide +kernel
theorem d9_code_148 : decode b9_code 148 = .ok (.getfield 25, 3) := by decide +kernel
theorem d9_code_151 : decode b9_code 151 = .ok (.iload_n 1, 1) := by decide +kernel
theorem d9_code_152 : decode b9_code 152 = .ok (.iaload, 1) := by decide +kernel
theorem d9_code_153 : decode b9_code 153 = .ok (.ireturn, 1) := by decide +kernel
theorem d9_table_0 : decode b9_table 0 = .ok (.aload_n 0, 1) := by decide +kernel
theorem d9_table_1 : decode b9_table 1 = .ok (.iload_n 1, 1) := by decide +kernel
theorem d9_table_2 : decode b9_table 2 = .ok (.iconst 0, 1) := by decide +kernel
theorem d9_table_3 : decode b9_table 3 = .ok (.bipush 7, 2) := by decide +kernel
theorem d9_table_5 : decode b9_table 5 = .ok (.invokestatic 92, 3) := by decide +kernel
theorem d9_table_8 : decode b9_table 8 = .ok (.ifCond .eq 16, 3) := by decide +kernel
theorem d9_table_11 : decode b9_table 11 = .ok (.iload_n 2, 1) := by decide +kernel
theorem d9_table_12 : decode b9_table 12 = .ok (.iconst (-1), 1) := by decide +kernel
theorem d9_table_13 : decode b9_table 13 = .ok (.iconst 5, 1) := by decide +kernel
theorem d9_table_14 : decode b9_table 14 = .ok (.invokestatic 92, 3) := by decide +kernel
theorem d9_table_17 : decode b9_table 17 = .ok (.ifCond .eq 7, 3) := by decide +kernel
theorem d9_table_20 : decode b9_table 20 = .ok (.iconst 1, 1) := by decide +kernel
theorem d9_table_21 : decode b9_table 21 = .ok (.goto 4, 3) := by decide +kernel
theorem d9_table_24 : decode b9_table 24 = .ok (.iconst 0, 1) := by decide +kernel
theorem d9_table_25 : decode b9_table 25 = .ok (.iconst 1, 1) := by decide +kernel
theorem d9_table_26 : decode b9_table 26 = .ok (.invokevirtual 100, 3) := by decide +kernel
theorem d9_table_29 : decode b9_table 29 = .ok (.ifCond .ne 5, 3) := by decide +kernel
theorem d9_table_32 : decode b9_table 32 = .ok (.iconst 0, 1) := by decide +kernel
theorem d9_table_33 : decode b9_table 33 = .ok (.ireturn, 1) := by decide +kernel
theorem d9_table_34 : decode b9_table 34 = .ok (.aload_n 0, 1) := by decide +kernel
theorem d9_table_35 : decode b9_table 35 = .ok (.getfield 28, 3) := by decide +kernel
theorem d9_table_38 : decode b9_table 38 = .ok (.iload_n 1, 1) := by decide +kernel
theorem d9_table_39 : decode b9_table 39 = .ok (.iaload, 1) := by decide +kernel
theorem d9_table_40 : decode b9_table 40 = .ok (.istore_n 3, 1) := by decide +kernel
theorem d9_table_41 : decode b9_table 41 = .ok (.aload_n 0, 1) := by decide +kernel
theorem d9_table_42 : decode b9_table 42 = .ok (.getfield 28, 3) := by decide +kernel
theorem d9_table_45 : decode b9_table 45 = .ok (.iload_n 1, 1) := by decide +kernel
theorem d9_table_46 : decode b9_table 46 = .ok (.iload_n 2, 1) := by decide +kernel
theorem d9_table_47 : decode b9_table 47 = .ok (.iastore, 1) := by decide +kernel
theorem d9_table_48 : decode b9_table 48 = .ok (.iload_n 3, 1) := by decide +kernel
theorem d9_table_49 : decode b9_table 49 = .ok (.ireturn, 1) := by decide +kernel
theorem d9_isKnown_0 : decode b9_isKnown 0 = .ok (.iload_n 0, 1) := by decide +kernel
theorem d9_isKnown_1 : decode b9_isKnown 1 = .ok (.bipush 28, 2) := by decide +kernel
theorem d9_isKnown_3 : decode b9_isKnown 3 = .ok (.if_icmp .le 47, 3) := by decide +kernel
theorem d9_isKnown_6 : decode b9_isKnown 6 = .ok (.iload_n 0, 1) := by decide +kernel
theorem d9_isKnown_7 : decode b9_isKnown 7 = .ok (.bipush 30, 2) := by decide +kernel
theorem d9_isKnown_9 : decode b9_isKnown 9 = .ok (.bipush 45, 2) := by decide +kernel
theorem d9_isKnown_11 : decode b9_isKnown 11 = .ok (.invokestatic 92, 3) := by decide +kernel
theorem d9_isKnown_14 : decode b9_isKnown 14 = .ok (.ifCond .ne 36, 3) := by decide +kernel
theorem d9_isKnown_17 : decode b9_isKnown 17 = .ok (.iload_n 0, 1) := by decide +kernel
theorem d9_isKnown_18 : decode b9_isKnown 18 = .ok (.bipush 50, 2) := by decide +kernel
theorem d9_isKnown_20 : decode b9_isKnown 20 = .ok (.bipush 64, 2) := by decide +kernel
theorem d9_isKnown_22 : decode b9_isKnown 22 = .ok (.invokestatic 92, 3) := by decide +kernel
theorem d9_isKnown_25 : decode b9_isKnown 25 = .ok (.ifCond .ne 25, 3) := by decide +kernel
theorem d9_isKnown_28 : decode b9_isKnown 28 = .ok (.iload_n 0, 1) := by decide +kernel
theorem d9_isKnown_29 : decode b9_isKnown 29 = .ok (.bipush 70, 2) := by decide +kernel
theorem d9_isKnown_31 : decode b9_isKnown 31 = .ok (.bipush 76, 2) := by decide +kernel
theorem d9_isKnown_33 : decode b9_isKnown 33 = .ok (.invokestatic 92, 3) := by decide +kernel
theorem d9_isKnown_36 : decode b9_isKnown 36 = .ok (.ifCond .ne 14, 3) := by decide +kernel
theorem d9_isKnown_39 : decode b9_isKnown 39 = .ok (.iload_n 0, 1) := by decide +kernel
theorem d9_isKnown_40 : decode b9_isKnown 40 = .ok (.bipush 80, 2) := by decide +kernel
theorem d9_isKnown_42 : decode b9_isKnown 42 = .ok (.bipush 85, 2) := by decide +kernel
theorem d9_isKnown_44 : decode b9_isKnown 44 = .ok (.invokestatic 92, 3) := by decide +kernel
theorem d9_isKnown_47 : decode b9_isKnown 47 = .ok (.ifCond .eq 7, 3) := by decide +kernel
theorem d9_isKnown_50 : decode b9_isKnown 50 = .ok (.iconst 1, 1) := by decide +kernel
theorem d9_isKnown_51 : decode b9_isKnown 51 = .ok (.goto 4, 3) := by decide +kernel
theorem d9_isKnown_54 : decode b9_isKnown 54 = .ok (.iconst 0, 1) := by decide +kernel
theorem d9_isKnown_55 : decode b9_isKnown 55 = .ok (.ireturn, 1) := by decide +kernel
theorem d9_byteAt_0 : decode b9_byteAt 0 = .ok (.aload_n 0, 1) := by decide +kernel
theorem d9_byteAt_1 : decode b9_byteAt 1 = .ok (.getfield 22, 3) := by decide +kernel
theorem d9_byteAt_4 : decode b9_byteAt 4 = .ok (.bipush 60, 2) := by decide +kernel
theorem d9_byteAt_6 : decode b9_byteAt 6 = .ok (.iload_n 1, 1) := by decide +kernel
theorem d9_byteAt_7 : decode b9_byteAt 7 = .ok (.imul, 1) := by decide +kernel
theorem d9_byteAt_8 : decode b9_byteAt 8 = .ok (.iload_n 2, 1) := by decide +kernel
theorem d9_byteAt_9 : decode b9_byteAt 9 = .ok (.iadd, 1) := by decide +kernel
theorem d9_byteAt_10 : decode b9_byteAt 10 = .ok (.iaload, 1) := by decide +kernel
theorem d9_byteAt_11 : decode b9_byteAt 11 = .ok (.ireturn, 1) := by decide +kernel
theorem d9_behind_0 : decode b9_behind 0 = .ok (.aload_n 0, 1) := by decide +kernel
theorem d9_behind_1 : decode b9_behind 1 = .ok (.iload_n 1, 1) := by decide +kernel
theorem d9_behind_2 : decode b9_behind 2 = .ok (.iload_n 2, 1) := by decide +kernel
theorem d9_behind_3 : decode b9_behind 3 = .ok (.invokevirtual 115, 3) := by decide +kernel
theorem d9_behind_6 : decode b9_behind 6 = .ok (.istore_n 3, 1) := by decide +kernel
theorem d9_behind_7 : decode b9_behind 7 = .ok (.iload_n 3, 1) := by decide +kernel
theorem d9_behind_8 : decode b9_behind 8 = .ok (.bipush 9, 2) := by decide +kernel
theorem d9_behind_10 : decode b9_behind 10 = .ok (.if_icmp .ne 30, 3) := by decide +kernel
theorem d9_behind_13 : decode b9_behind 13 = .ok (.iload_n 2, 1) := by decide +kernel
theorem d9_behind_14 : decode b9_behind 14 = .ok (.iconst 1, 1) := by decide +kernel
theorem d9_behind_15 : decode b9_behind 15 = .ok (.iadd, 1) := by decide +kernel
theorem d9_behind_16 : decode b9_behind 16 = .ok (.aload_n 0, 1) := by decide +kernel
theorem d9_behind_17 : decode b9_behind 17 = .ok (.getfield 25, 3) := by decide +kernel
theorem d9_behind_20 : decode b9_behind 20 = .ok (.iload_n 1, 1) := by decide +kernel
theorem d9_behind_21 : decode b9_behind 21 = .ok (.iaload, 1) := by decide +kernel
theorem d9_behind_22 : decode b9_behind 22 = .ok (.if_icmp .ge 16, 3) := by decide +kernel
theorem d9_behind_25 : decode b9_behind 25 = .ok (.iconst 2, 1) := by decide +kernel
theorem d9_behind_26 : decode b9_behind 26 = .ok (.aload_n 0, 1) := by decide +kernel
theorem d9_behind_27 : decode b9_behind 27 = .ok (.iload_n 1, 1) := by decide +kernel
theorem d9_behind_28 : decode b9_behind 28 = .ok (.iload_n 2, 1) := by decide +kernel
theorem d9_behind_29 : decode b9_behind 29 = .ok (.iconst 1, 1) := by decide +kernel
theorem d9_behind_30 : decode b9_behind 30 = .ok (.iadd, 1) := by decide +kernel
theorem d9_behind_31 : decode b9_behind 31 = .ok (.invokevirtual 115, 3) := by decide +kernel
theorem d9_behind_34 : decode b9_behind 34 = .ok (.iadd, 1) := by decide +kernel
theorem d9_behind_35 : decode b9_behind 35 = .ok (.goto 4, 3) := by decide +kernel
theorem d9_behind_38 : decode b9_behind 38 = .ok (.iconst 1, 1) := by decide +kernel
theorem d9_behind_39 : decode b9_behind 39 = .ok (.ireturn, 1) := by decide +kernel
theorem d9_behind_40 : decode b9_behind 40 = .ok (.iload_n 3, 1) := by decide +kernel
theorem d9_behind_41 : decode b9_behind 41 = .ok (.iconst 2, 1) := by decide +kernel
theorem d9_behind_42 : decode b9_behind 42 = .ok (.iconst 4, 1) := by decide +kernel
theorem d9_behind_43 : decode b9_behind 43 = .ok (.invokestatic 92, 3) := by decide +kernel
theorem d9_behind_46 : decode b9_behind 46 = .ok (.ifCond .ne 38, 3) := by decide +kernel
theorem d9_behind_49 : decode b9_behind 49 = .ok (.iload_n 3, 1) := by decide +kernel
theorem d9_behind_50 : decode b9_behind 50 = .ok (.bipush 7, 2) := by decide +kernel
theorem d9_behind_52 : decode b9_behind 52 = .ok (.if_icmp .eq 32, 3) := by decide +kernel
theorem d9_behind_55 : decode b9_behind 55 = .ok (.iload_n 3, 1) := by decide +kernel
theorem d9_behind_56 : decode b9_behind 56 = .ok (.bipush 8, 2) := by decide +kernel
theorem d9_behind_58 : decode b9_behind 58 = .ok (.if_icmp .eq 26, 3) := by decide +kernel
theorem d9_behind_61 : decode b9_behind 61 = .ok (.iload_n 3, 1) := by decide +kernel
theorem d9_behind_62 : decode b9_behind 62 = .ok (.bipush 11, 2) := by decide +kernel
theorem d9_behind_64 : decode b9_behind 64 = .ok (.if_icmp .eq 20, 3) := by decide +kernel
theorem d9_behind_67 : decode b9_behind 67 = .ok (.iload_n 3, 1) := by decide +kernel
theorem d9_behind_68 : decode b9_behind 68 = .ok (.bipush 12, 2) := by decide +kernel
theorem d9_behind_70 : decode b9_behind 70 = .ok (.if_icmp .eq 14, 3) := by decide +kernel
theorem d9_behind_73 : decode b9_behind 73 = .ok (.iload_n 3, 1) := by decide +kernel
theorem d9_behind_74 : decode b9_behind 74 = .ok (.bipush 15, 2) := by decide +kernel
theorem d9_behind_76 : decode b9_behind 76 = .ok (.bipush 28, 2) := by decide +kernel
theorem d9_behind_78 : decode b9_behind 78 = .ok (.invokestatic 92, 3) := by decide +kernel
theorem d9_behind_81 : decode b9_behind 81 = .ok (.ifCond .eq 7, 3) := by decide +kernel
theorem d9_behind_84 : decode b9_behind 84 = .ok (.iconst 1, 1) := by decide +kernel
theorem d9_behind_85 : decode b9_behind 85 = .ok (.goto 4, 3) := by decide +kernel
theorem d9_behind_88 : decode b9_behind 88 = .ok (.iconst 0, 1) := by decide +kernel
theorem d9_behind_89 : decode b9_behind 89 = .ok (.ireturn, 1) := by decide +kernel
theorem d9_seek_0 : decode b9_seek 0 = .ok (.iconst 0, 1) := by decide +kernel
theorem d9_seek_1 : decode b9_seek 1 = .ok (.istore 4, 2) := by decide +kernel
theorem d9_seek_3 : decode b9_seek 3 = .ok (.iload_n 2, 1) := by decide +kernel
theorem d9_seek_4 : decode b9_seek 4 = .ok (.istore 5, 2) := by decide +kernel
theorem d9_seek_6 : decode b9_seek 6 = .ok (.iload 4, 2) := by decide +kernel
theorem d9_seek_8 : decode b9_seek 8 = .ok (.ifCond .gt 30, 3) := by decide +kernel
theorem d9_seek_11 : decode b9_seek 11 = .ok (.aload_n 0, 1) := by decide +kernel
theorem d9_seek_12 : decode b9_seek 12 = .ok (.iload_n 1, 1) := by decide +kernel
theorem d9_seek_13 : decode b9_seek 13 = .ok (.iload 5, 2) := by decide +kernel
theorem d9_seek_15 : decode b9_seek 15 = .ok (.invokevirtual 115, 3) := by decide +kernel
theorem d9_seek_18 : decode b9_seek 18 = .ok (.bipush 6, 2) := by decide +kernel
theorem d9_seek_20 : decode b9_seek 20 = .ok (.if_icmp .eq 68, 3) := by decide +kernel
theorem d9_seek_23 : decode b9_seek 23 = .ok (.iload_n 3, 1) := by decide +kernel
theorem d9_seek_24 : decode b9_seek 24 = .ok (.ifCond .eq 14, 3) := by decide +kernel
theorem d9_seek_27 : decode b9_seek 27 = .ok (.aload_n 0, 1) := by decide +kernel
theorem d9_seek_28 : decode b9_seek 28 = .ok (.iload_n 1, 1) := by decide +kernel
theorem d9_seek_29 : decode b9_seek 29 = .ok (.iload 5, 2) := by decide +kernel
theorem d9_seek_31 : decode b9_seek 31 = .ok (.invokevirtual 115, 3) := by decide +kernel
theorem d9_seek_34 : decode b9_seek 34 = .ok (.iconst 5, 1) := by decide +kernel
theorem d9_seek_35 : decode b9_seek 35 = .ok (.if_icmp .eq 53, 3) := by decide +kernel
theorem d9_seek_38 : decode b9_seek 38 = .ok (.aload_n 0, 1) := by decide +kernel
theorem d9_seek_39 : decode b9_seek 39 = .ok (.iload_n 1, 1) := by decide +kernel
theorem d9_seek_40 : decode b9_seek 40 = .ok (.iload 5, 2) := by decide +kernel
theorem d9_seek_42 : decode b9_seek 42 = .ok (.invokevirtual 115, 3) := by decide +kernel
theorem d9_seek_45 : decode b9_seek 45 = .ok (.iconst 2, 1) := by decide +kernel
theorem d9_seek_46 : decode b9_seek 46 = .ok (.iconst 4, 1) := by decide +kernel
theorem d9_seek_47 : decode b9_seek 47 = .ok (.invokestatic 92, 3) := by decide +kernel
theorem d9_seek_50 : decode b9_seek 50 = .ok (.ifCond .eq 6, 3) := by decide +kernel
theorem d9_seek_53 : decode b9_seek 53 = .ok (.iinc 4 1, 3) := by decide +kernel
theorem d9_seek_56 : decode b9_seek 56 = .ok (.aload_n 0, 1) := by decide +kernel
theorem d9_seek_57 : decode b9_seek 57 = .ok (.iload_n 1, 1) := by decide +kernel
theorem d9_seek_58 : decode b9_seek 58 = .ok (.iload 5, 2) := by decide +kernel
theorem d9_seek_60 : decode b9_seek 60 = .ok (.invokevirtual 115, 3) := by decide +kernel
theorem d9_seek_63 : decode b9_seek 63 = .ok (.bipush 6, 2) := by decide +kernel
theorem d9_seek_65 : decode b9_seek 65 = .ok (.if_icmp .ne 6, 3) := by decide +kernel
theorem d9_seek_68 : decode b9_seek 68 = .ok (.iinc 4 (-1), 3) := by decide +kernel
theorem d9_seek_71 : decode b9_seek 71 = .ok (.iload 5, 2) := by decide +kernel
theorem d9_seek_73 : decode b9_seek 73 = .ok (.iconst 1, 1) := by decide +kernel
theorem d9_seek_74 : decode b9_seek 74 = .ok (.aload_n 0, 1) := by decide +kernel
theorem d9_seek_75 : decode b9_seek 75 = .ok (.iload_n 1, 1) := by decide +kernel
theorem d9_seek_76 : decode b9_seek 76 = .ok (.iload 5, 2) := by decide +kernel
theorem d9_seek_78 : decode b9_seek 78 = .ok (.invokevirtual 119, 3) := by decide +kernel
theorem d9_seek_81 : decode b9_seek 81 = .ok (.iadd, 1) := by decide +kernel
theorem d9_seek_82 : decode b9_seek 82 = .ok (.iadd, 1) := by decide +kernel
theorem d9_seek_83 : decode b9_seek 83 = .ok (.istore 5, 2) := by decide +kernel
theorem d9_seek_85 : decode b9_seek 85 = .ok (.goto (-79), 3) := by decide +kernel
theorem d9_seek_88 : decode b9_seek 88 = .ok (.iload 5, 2) := by decide +kernel
theorem d9_seek_90 : decode b9_seek 90 = .ok (.ireturn, 1) := by decide +kernel
theorem d9_put_0 : decode b9_put 0 = .ok (.aload_n 0, 1) := by decide +kernel
theorem d9_put_1 : decode b9_put 1 = .ok (.getfield 122, 3) := by decide +kernel
theorem d9_put_4 : decode b9_put 4 = .ok (.bipush 16, 2) := by decide +kernel
theorem d9_put_6 : decode b9_put 6 = .ok (.if_icmp .ne 11, 3) := by decide +kernel
theorem d9_put_9 : decode b9_put 9 = .ok (.aload_n 0, 1) := by decide +kernel
theorem d9_put_10 : decode b9_put 10 = .ok (.iconst 1, 1) := by decide +kernel
theorem d9_put_11 : decode b9_put 11 = .ok (.putfield 125, 3) := by decide +kernel
theorem d9_put_14 : decode b9_put 14 = .ok (.goto 23, 3) := by decide +kernel
theorem d9_put_17 : decode b9_put 17 = .ok (.aload_n 0, 1) := by decide +kernel
theorem d9_put_18 : decode b9_put 18 = .ok (.getfield 41, 3) := by decide +kernel
theorem d9_put_21 : decode b9_put 21 = .ok (.aload_n 0, 1) := by decide +kernel
theorem d9_put_22 : decode b9_put 22 = .ok (.getfield 122, 3) := by decide +kernel
theorem d9_put_25 : decode b9_put 25 = .ok (.iload_n 1, 1) := by decide +kernel
theorem d9_put_26 : decode b9_put 26 = .ok (.iastore, 1) := by decide +kernel
theorem d9_put_27 : decode b9_put 27 = .ok (.aload_n 0, 1) := by decide +kernel
theorem d9_put_28 : decode b9_put 28 = .ok (.dup, 1) := by decide +kernel
theorem d9_put_29 : decode b9_put 29 = .ok (.getfield 122, 3) := by decide +kernel
theorem d9_put_32 : decode b9_put 32 = .ok (.iconst 1, 1) := by decide +kernel
theorem d9_put_33 : decode b9_put 33 = .ok (.iadd, 1) := by decide +kernel
theorem d9_put_34 : decode b9_put 34 = .ok (.putfield 122, 3) := by decide +kernel
theorem d9_put_37 : decode b9_put 37 = .ok (.return_, 1) := by decide +kernel
theorem d9_takeAny_0 : decode b9_takeAny 0 = .ok (.aload_n 0, 1) := by decide +kernel
theorem d9_takeAny_1 : decode b9_takeAny 1 = .ok (.getfield 122, 3) := by decide +kernel
theorem d9_takeAny_4 : decode b9_takeAny 4 = .ok (.aload_n 0, 1) := by decide +kernel
theorem d9_takeAny_5 : decode b9_takeAny 5 = .ok (.getfield 50, 3) := by decide +kernel
theorem d9_takeAny_8 : decode b9_takeAny 8 = .ok (.aload_n 0, 1) := by decide +kernel
theorem d9_takeAny_9 : decode b9_takeAny 9 = .ok (.getfield 128, 3) := by decide +kernel
theorem d9_takeAny_12 : decode b9_takeAny 12 = .ok (.iconst 1, 1) := by decide +kernel
theorem d9_takeAny_13 : decode b9_takeAny 13 = .ok (.isub, 1) := by decide +kernel
theorem d9_takeAny_14 : decode b9_takeAny 14 = .ok (.iaload, 1) := by decide +kernel
theorem d9_takeAny_15 : decode b9_takeAny 15 = .ok (.if_icmp .le 23, 3) := by decide +kernel
theorem d9_takeAny_18 : decode b9_takeAny 18 = .ok (.aload_n 0, 1) := by decide +kernel
theorem d9_takeAny_19 : decode b9_takeAny 19 = .ok (.dup, 1) := by decide +kernel
theorem d9_takeAny_20 : decode b9_takeAny 20 = .ok (.getfield 122, 3) := by decide +kernel
theorem d9_takeAny_23 : decode b9_takeAny 23 = .ok (.iconst 1, 1) := by decide +kernel
theorem d9_takeAny_24 : decode b9_takeAny 24 = .ok (.isub, 1) := by decide +kernel
theorem d9_takeAny_25 : decode b9_takeAny 25 = .ok (.putfield 122, 3) := by decide +kernel
theorem d9_takeAny_28 : decode b9_takeAny 28 = .ok (.aload_n 0, 1) := by decide +kernel
theorem d9_takeAny_29 : decode b9_takeAny 29 = .ok (.getfield 41, 3) := by decide +kernel
theorem d9_takeAny_32 : decode b9_takeAny 32 = .ok (.aload_n 0, 1) := by decide +kernel
theorem d9_takeAny_33 : decode b9_takeAny 33 = .ok (.getfield 122, 3) := by decide +kernel
theorem d9_takeAny_36 : decode b9_takeAny 36 = .ok (.iaload, 1) := by decide +kernel
theorem d9_takeAny_37 : decode b9_takeAny 37 = .ok (.ireturn, 1) := by decide +kernel
theorem d9_takeAny_38 : decode b9_takeAny 38 = .ok (.aload_n 0, 1) := by decide +kernel
theorem d9_takeAny_39 : decode b9_takeAny 39 = .ok (.getfield 53, 3) := by decide +kernel
theorem d9_takeAny_42 : decode b9_takeAny 42 = .ok (.aload_n 0, 1) := by decide +kernel
theorem d9_takeAny_43 : decode b9_takeAny 43 = .ok (.getfield 128, 3) := by decide +kernel
theorem d9_takeAny_46 : decode b9_takeAny 46 = .ok (.iconst 1, 1) := by decide +kernel
theorem d9_takeAny_47 : decode b9_takeAny 47 = .ok (.isub, 1) := by decide +kernel
theorem d9_takeAny_48 : decode b9_takeAny 48 = .ok (.baload, 1) := by decide +kernel
theorem d9_takeAny_49 : decode b9_takeAny 49 = .ok (.ifCond .ne 8, 3) := by decide +kernel
theorem d9_takeAny_52 : decode b9_takeAny 52 = .ok (.aload_n 0, 1) := by decide +kernel
theorem d9_takeAny_53 : decode b9_takeAny 53 = .ok (.iconst 1, 1) := by decide +kernel
theorem d9_takeAny_54 : decode b9_takeAny 54 = .ok (.putfield 125, 3) := by decide +kernel
theorem d9_takeAny_57 : decode b9_takeAny 57 = .ok (.iconst 4, 1) := by decide +kernel
theorem d9_takeAny_58 : decode b9_takeAny 58 = .ok (.ireturn, 1) := by decide +kernel
theorem d9_take_0 : decode b9_take 0 = .ok (.aload_n 0, 1) := by decide +kernel
theorem d9_take_1 : decode b9_take 1 = .ok (.invokevirtual 131, 3) := by decide +kernel
theorem d9_take_4 : decode b9_take 4 = .ok (.istore_n 2, 1) := by decide +kernel
theorem d9_take_5 : decode b9_take 5 = .ok (.iload_n 2, 1) := by decide +kernel
theorem d9_take_6 : decode b9_take 6 = .ok (.iload_n 1, 1) := by decide +kernel
theorem d9_take_7 : decode b9_take 7 = .ok (.if_icmp .eq 13, 3) := by decide +kernel
theorem d9_take_10 : decode b9_take 10 = .ok (.iload_n 2, 1) := by decide +kernel
theorem d9_take_11 : decode b9_take 11 = .ok (.iconst 4, 1) := by decide +kernel
theorem d9_take_12 : decode b9_take 12 = .ok (.if_icmp .eq 8, 3) := by decide +kernel
theorem d9_take_15 : decode b9_take 15 = .ok (.aload_n 0, 1) := by decide +kernel
theorem d9_take_16 : decode b9_take 16 = .ok (.iconst 1, 1) := by decide +kernel
theorem d9_take_17 : decode b9_take 17 = .ok (.putfield 125, 3) := by decide +kernel
theorem d9_take_20 : decode b9_take 20 = .ok (.return_, 1) := by decide +kernel
theorem d9_takeIf_0 : decode b9_takeIf 0 = .ok (.iload_n 1, 1) := by decide +kernel
theorem d9_takeIf_1 : decode b9_takeIf 1 = .ok (.ifCond .eq 8, 3) := by decide +kernel
theorem d9_takeIf_4 : decode b9_takeIf 4 = .ok (.aload_n 0, 1) := by decide +kernel
theorem d9_takeIf_5 : decode b9_takeIf 5 = .ok (.iload_n 1, 1) := by decide +kernel
theorem d9_takeIf_6 : decode b9_takeIf 6 = .ok (.invokevirtual 135, 3) := by decide +kernel
theorem d9_takeIf_9 : decode b9_takeIf 9 = .ok (.return_, 1) := by decide +kernel
theorem d9_putIf_0 : decode b9_putIf 0 = .ok (.iload_n 1, 1) := by decide +kernel
theorem d9_putIf_1 : decode b9_putIf 1 = .ok (.ifCond .eq 8, 3) := by decide +kernel
theorem d9_putIf_4 : decode b9_putIf 4 = .ok (.aload_n 0, 1) := by decide +kernel
theorem d9_putIf_5 : decode b9_putIf 5 = .ok (.iload_n 1, 1) := by decide +kernel
theorem d9_putIf_6 : decode b9_putIf 6 = .ok (.invokevirtual 139, 3) := by decide +kernel
theorem d9_putIf_9 : decode b9_putIf 9 = .ok (.return_, 1) := by decide +kernel
theorem d9_begin_0 : decode b9_begin 0 = .ok (.iload_n 1, 1) := by decide +kernel
theorem d9_begin_1 : decode b9_begin 1 = .ok (.iconst 4, 1) := by decide +kernel
theorem d9_begin_2 : decode b9_begin 2 = .ok (.if_icmp .ne 8, 3) := by decide +kernel
theorem d9_begin_5 : decode b9_begin 5 = .ok (.aload_n 0, 1) := by decide +kernel
theorem d9_begin_6 : decode b9_begin 6 = .ok (.iconst 1, 1) := by decide +kernel
theorem d9_begin_7 : decode b9_begin 7 = .ok (.invokevirtual 135, 3) := by decide +kernel
theorem d9_begin_10 : decode b9_begin 10 = .ok (.iload_n 2, 1) := by decide +kernel
theorem d9_begin_11 : decode b9_begin 11 = .ok (.iconst 3, 1) := by decide +kernel
theorem d9_begin_12 : decode b9_begin 12 = .ok (.if_icmp .gt 12, 3) := by decide +kernel
theorem d9_begin_15 : decode b9_begin 15 = .ok (.aload_n 0, 1) := by decide +kernel
theorem d9_begin_16 : decode b9_begin 16 = .ok (.getfield 128, 3) := by decide +kernel
theorem d9_begin_19 : decode b9_begin 19 = .ok (.bipush 8, 2) := by decide +kernel
theorem d9_begin_21 : decode b9_begin 21 = .ok (.if_icmp .ne 8, 3) := by decide +kernel
theorem d9_begin_24 : decode b9_begin 24 = .ok (.aload_n 0, 1) := by decide +kernel
theorem d9_begin_25 : decode b9_begin 25 = .ok (.iconst 1, 1) := by decide +kernel
theorem d9_begin_26 : decode b9_begin 26 = .ok (.putfield 125, 3) := by decide +kernel
theorem d9_begin_29 : decode b9_begin 29 = .ok (.aload_n 0, 1) := by decide +kernel
theorem d9_begin_30 : decode b9_begin 30 = .ok (.getfield 44, 3) := by decide +kernel
theorem d9_begin_33 : decode b9_begin 33 = .ok (.aload_n 0, 1) := by decide +kernel
theorem d9_begin_34 : decode b9_begin 34 = .ok (.getfield 128, 3) := by decide +kernel
theorem d9_begin_37 : decode b9_begin 37 = .ok (.iload_n 1, 1) := by decide +kernel
theorem d9_begin_38 : decode b9_begin 38 = .ok (.iastore, 1) := by decide +kernel
theorem d9_begin_39 : decode b9_begin 39 = .ok (.aload_n 0, 1) := by decide +kernel
theorem d9_begin_40 : decode b9_begin 40 = .ok (.getfield 47, 3) := by decide +kernel
theorem d9_begin_43 : decode b9_begin 43 = .ok (.aload_n 0, 1) := by decide +kernel
theorem d9_begin_44 : decode b9_begin 44 = .ok (.getfield 128, 3) := by decide +kernel
theorem d9_begin_47 : decode b9_begin 47 = .ok (.iload_n 2, 1) := by decide +kernel
theorem d9_begin_48 : decode b9_begin 48 = .ok (.iastore, 1) := by decide +kernel
theorem d9_begin_49 : decode b9_begin 49 = .ok (.aload_n 0, 1) := by decide +kernel
theorem d9_begin_50 : decode b9_begin 50 = .ok (.getfield 50, 3) := by decide +kernel
theorem d9_begin_53 : decode b9_begin 53 = .ok (.aload_n 0, 1) := by decide +kernel
theorem d9_begin_54 : decode b9_begin 54 = .ok (.getfield 128, 3) := by decide +kernel
theorem d9_begin_57 : decode b9_begin 57 = .ok (.aload_n 0, 1) := by decide +kernel
theorem d9_begin_58 : decode b9_begin 58 = .ok (.getfield 122, 3) := by decide +kernel
theorem d9_begin_61 : decode b9_begin 61 = .ok (.iastore, 1) := by decide +kernel
theorem d9_begin_62 : decode b9_begin 62 = .ok (.aload_n 0, 1) := by decide +kernel
theorem d9_begin_63 : decode b9_begin 63 = .ok (.getfield 53, 3) := by decide +kernel
theorem d9_begin_66 : decode b9_begin 66 = .ok (.aload_n 0, 1) := by decide +kernel
theorem d9_begin_67 : decode b9_begin 67 = .ok (.getfield 128, 3) := by decide +kernel
theorem d9_begin_70 : decode b9_begin 70 = .ok (.iconst 0, 1) := by decide +kernel
theorem d9_begin_71 : decode b9_begin 71 = .ok (.bastore, 1) := by decide +kernel
theorem d9_begin_72 : decode b9_begin 72 = .ok (.aload_n 0, 1) := by decide +kernel
theorem d9_begin_73 : decode b9_begin 73 = .ok (.getfield 57, 3) := by decide +kernel
theorem d9_begin_76 : decode b9_begin 76 = .ok (.aload_n 0, 1) := by decide +kernel
theorem d9_begin_77 : decode b9_begin 77 = .ok (.getfield 128, 3) := by decide +kernel
theorem d9_begin_80 : decode b9_begin 80 = .ok (.iconst 0, 1) := by decide +kernel
theorem d9_begin_81 : decode b9_begin 81 = .ok (.bastore, 1) := by decide +kernel
theorem d9_begin_82 : decode b9_begin 82 = .ok (.aload_n 0, 1) := by decide +kernel
theorem d9_begin_83 : decode b9_begin 83 = .ok (.dup, 1) := by decide +kernel
theorem d9_begin_84 : decode b9_begin 84 = .ok (.getfield 128, 3) := by decide +kernel
theorem d9_begin_87 : decode b9_begin 87 = .ok (.iconst 1, 1) := by decide +kernel
theorem d9_begin_88 : decode b9_begin 88 = .ok (.iadd, 1) := by decide +kernel
theorem d9_begin_89 : decode b9_begin 89 = .ok (.putfield 128, 3) := by decide +kernel
theorem d9_begin_92 : decode b9_begin 92 = .ok (.return_, 1) := by decide +kernel
theorem d9_die_0 : decode b9_die 0 = .ok (.aload_n 0, 1) := by decide +kernel
theorem d9_die_1 : decode b9_die 1 = .ok (.aload_n 0, 1) := by decide +kernel
theorem d9_die_2 : decode b9_die 2 = .ok (.getfield 50, 3) := by decide +kernel
theorem d9_die_5 : decode b9_die 5 = .ok (.aload_n 0, 1) := by decide +kernel
theorem d9_die_6 : decode b9_die 6 = .ok (.getfield 128, 3) := by decide +kernel
theorem d9_die_9 : decode b9_die 9 = .ok (.iconst 1, 1) := by decide +kernel
theorem d9_die_10 : decode b9_die 10 = .ok (.isub, 1) := by decide +kernel
theorem d9_die_11 : decode b9_die 11 = .ok (.iaload, 1) := by decide +kernel
theorem d9_die_12 : decode b9_die 12 = .ok (.putfield 122, 3) := by decide +kernel
theorem d9_die_15 : decode b9_die 15 = .ok (.aload_n 0, 1) := by decide +kernel
theorem d9_die_16 : decode b9_die 16 = .ok (.getfield 53, 3) := by decide +kernel
theorem d9_die_19 : decode b9_die 19 = .ok (.aload_n 0, 1) := by decide +kernel
theorem d9_die_20 : decode b9_die 20 = .ok (.getfield 128, 3) := by decide +kernel
theorem d9_die_23 : decode b9_die 23 = .ok (.iconst 1, 1) := by decide +kernel
theorem d9_die_24 : decode b9_die 24 = .ok (.isub, 1) := by decide +kernel
theorem d9_die_25 : decode b9_die 25 = .ok (.iconst 1, 1) := by decide +kernel
theorem d9_die_26 : decode b9_die 26 = .ok (.bastore, 1) := by decide +kernel
theorem d9_die_27 : decode b9_die 27 = .ok (.return_, 1) := by decide +kernel
theorem d9_close_0 : decode b9_close 0 = .ok (.aload_n 0, 1) := by decide +kernel
theorem d9_close_1 : decode b9_close 1 = .ok (.getfield 128, 3) := by decide +kernel
theorem d9_close_4 : decode b9_close 4 = .ok (.iconst 1, 1) := by decide +kernel
theorem d9_close_5 : decode b9_close 5 = .ok (.isub, 1) := by decide +kernel
theorem d9_close_6 : decode b9_close 6 = .ok (.istore_n 2, 1) := by decide +kernel
theorem d9_close_7 : decode b9_close 7 = .ok (.aload_n 0, 1) := by decide +kernel
theorem d9_close_8 : decode b9_close 8 = .ok (.aload_n 0, 1) := by decide +kernel
theorem d9_close_9 : decode b9_close 9 = .ok (.getfield 47, 3) := by decide +kernel
theorem d9_close_12 : decode b9_close 12 = .ok (.iload_n 2, 1) := by decide +kernel
theorem d9_close_13 : decode b9_close 13 = .ok (.iaload, 1) := by decide +kernel
theorem d9_close_14 : decode b9_close 14 = .ok (.invokevirtual 142, 3) := by decide +kernel
theorem d9_close_17 : decode b9_close 17 = .ok (.aload_n 0, 1) := by decide +kernel
theorem d9_close_18 : decode b9_close 18 = .ok (.getfield 122, 3) := by decide +kernel
theorem d9_close_21 : decode b9_close 21 = .ok (.aload_n 0, 1) := by decide +kernel
theorem d9_close_22 : decode b9_close 22 = .ok (.getfield 50, 3) := by decide +kernel
theorem d9_close_25 : decode b9_close 25 = .ok (.iload_n 2, 1) := by decide +kernel
theorem d9_close_26 : decode b9_close 26 = .ok (.iaload, 1) := by decide +kernel
theorem d9_close_27 : decode b9_close 27 = .ok (.if_icmp .eq 8, 3) := by decide +kernel
theorem d9_close_30 : decode b9_close 30 = .ok (.aload_n 0, 1) := by decide +kernel
theorem d9_close_31 : decode b9_close 31 = .ok (.iconst 1, 1) := by decide +kernel
theorem d9_close_32 : decode b9_close 32 = .ok (.putfield 125, 3) := by decide +kernel
theorem d9_close_35 : decode b9_close 35 = .ok (.iload_n 1, 1) := by decide +kernel
theorem d9_close_36 : decode b9_close 36 = .ok (.iconst 5, 1) := by decide +kernel
theorem d9_close_37 : decode b9_close 37 = .ok (.if_icmp .ne 42, 3) := by decide +kernel
theorem d9_close_40 : decode b9_close 40 = .ok (.aload_n 0, 1) := by decide +kernel
theorem d9_close_41 : decode b9_close 41 = .ok (.getfield 44, 3) := by decide +kernel
theorem d9_close_44 : decode b9_close 44 = .ok (.iload_n 2, 1) := by decide +kernel
theorem d9_close_45 : decode b9_close 45 = .ok (.iaload, 1) := by decide +kernel
theorem d9_close_46 : decode b9_close 46 = .ok (.iconst 4, 1) := by decide +kernel
theorem d9_close_47 : decode b9_close 47 = .ok (.if_icmp .ne 12, 3) := by decide +kernel
theorem d9_close_50 : decode b9_close 50 = .ok (.aload_n 0, 1) := by decide +kernel
theorem d9_close_51 : decode b9_close 51 = .ok (.getfield 57, 3) := by decide +kernel
theorem d9_close_54 : decode b9_close 54 = .ok (.iload_n 2, 1) := by decide +kernel
theorem d9_close_55 : decode b9_close 55 = .ok (.baload, 1) := by decide +kernel
theorem d9_close_56 : decode b9_close 56 = .ok (.ifCond .eq 8, 3) := by decide +kernel
theorem d9_close_59 : decode b9_close 59 = .ok (.aload_n 0, 1) := by decide +kernel
theorem d9_close_60 : decode b9_close 60 = .ok (.iconst 1, 1) := by decide +kernel
theorem d9_close_61 : decode b9_close 61 = .ok (.putfield 125, 3) := by decide +kernel
theorem d9_close_64 : decode b9_close 64 = .ok (.aload_n 0, 1) := by decide +kernel
theorem d9_close_65 : decode b9_close 65 = .ok (.getfield 57, 3) := by decide +kernel
theorem d9_close_68 : decode b9_close 68 = .ok (.iload_n 2, 1) := by decide +kernel
theorem d9_close_69 : decode b9_close 69 = .ok (.iconst 1, 1) := by decide +kernel
theorem d9_close_70 : decode b9_close 70 = .ok (.bastore, 1) := by decide +kernel
theorem d9_close_71 : decode b9_close 71 = .ok (.aload_n 0, 1) := by decide +kernel
theorem d9_close_72 : decode b9_close 72 = .ok (.getfield 53, 3) := by decide +kernel
theorem d9_close_75 : decode b9_close 75 = .ok (.iload_n 2, 1) := by decide +kernel
theorem d9_close_76 : decode b9_close 76 = .ok (.iconst 0, 1) := by decide +kernel
theorem d9_close_77 : decode b9_close 77 = .ok (.bastore, 1) := by decide +kernel
theorem d9_close_78 : decode b9_close 78 = .ok (.return_, 1) := by decide +kernel
theorem d9_close_79 : decode b9_close 79 = .ok (.aload_n 0, 1) := by decide +kernel
theorem d9_close_80 : decode b9_close 80 = .ok (.getfield 44, 3) := by decide +kernel
theorem d9_close_83 : decode b9_close 83 = .ok (.iload_n 2, 1) := by decide +kernel
theorem d9_close_84 : decode b9_close 84 = .ok (.iaload, 1) := by decide +kernel
theorem d9_close_85 : decode b9_close 85 = .ok (.iconst 4, 1) := by decide +kernel
theorem d9_close_86 : decode b9_close 86 = .ok (.if_icmp .ne 26, 3) := by decide +kernel
theorem d9_close_89 : decode b9_close 89 = .ok (.aload_n 0, 1) := by decide +kernel
theorem d9_close_90 : decode b9_close 90 = .ok (.getfield 47, 3) := by decide +kernel
theorem d9_close_93 : decode b9_close 93 = .ok (.iload_n 2, 1) := by decide +kernel
theorem d9_close_94 : decode b9_close 94 = .ok (.iaload, 1) := by decide +kernel
theorem d9_close_95 : decode b9_close 95 = .ok (.ifCond .eq 17, 3) := by decide +kernel
theorem d9_close_98 : decode b9_close 98 = .ok (.aload_n 0, 1) := by decide +kernel
theorem d9_close_99 : decode b9_close 99 = .ok (.getfield 57, 3) := by decide +kernel
theorem d9_close_102 : decode b9_close 102 = .ok (.iload_n 2, 1) := by decide +kernel
theorem d9_close_103 : decode b9_close 103 = .ok (.baload, 1) := by decide +kernel
theorem d9_close_104 : decode b9_close 104 = .ok (.ifCond .ne 8, 3) := by decide +kernel
theorem d9_close_107 : decode b9_close 107 = .ok (.aload_n 0, 1) := by decide +kernel
theorem d9_close_108 : decode b9_close 108 = .ok (.iconst 1, 1) := by decide +kernel
theorem d9_close_109 : decode b9_close 109 = .ok (.putfield 125, 3) := by decide +kernel
theorem d9_close_112 : decode b9_close 112 = .ok (.aload_n 0, 1) := by decide +kernel
theorem d9_close_113 : decode b9_close 113 = .ok (.dup, 1) := by decide +kernel
theorem d9_close_114 : decode b9_close 114 = .ok (.getfield 128, 3) := by decide +kernel
theorem d9_close_117 : decode b9_close 117 = .ok (.iconst 1, 1) := by decide +kernel
theorem d9_close_118 : decode b9_close 118 = .ok (.isub, 1) := by decide +kernel
theorem d9_close_119 : decode b9_close 119 = .ok (.putfield 128, 3) := by decide +kernel
theorem d9_close_122 : decode b9_close 122 = .ok (.aload_n 0, 1) := by decide +kernel
theorem d9_close_123 : decode b9_close 123 = .ok (.getfield 128, 3) := by decide +kernel
theorem d9_close_126 : decode b9_close 126 = .ok (.ifCond .le 13, 3) := by decide +kernel
theorem d9_close_129 : decode b9_close 129 = .ok (.aload_n 0, 1) := by decide +kernel
theorem d9_close_130 : decode b9_close 130 = .ok (.aload_n 0, 1) := by decide +kernel
theorem d9_close_131 : decode b9_close 131 = .ok (.getfield 47, 3) := by decide +kernel
theorem d9_close_134 : decode b9_close 134 = .ok (.iload_n 2, 1) := by decide +kernel
theorem d9_close_135 : decode b9_close 135 = .ok (.iaload, 1) := by decide +kernel
theorem d9_close_136 : decode b9_close 136 = .ok (.invokevirtual 145, 3) := by decide +kernel
theorem d9_close_139 : decode b9_close 139 = .ok (.return_, 1) := by decide +kernel
theorem d9_label_0 : decode b9_label 0 = .ok (.iload_n 1, 1) := by decide +kernel
theorem d9_label_1 : decode b9_label 1 = .ok (.aload_n 0, 1) := by decide +kernel
theorem d9_label_2 : decode b9_label 2 = .ok (.getfield 128, 3) := by decide +kernel
theorem d9_label_5 : decode b9_label 5 = .ok (.if_icmp .lt 10, 3) := by decide +kernel
theorem d9_label_8 : decode b9_label 8 = .ok (.aload_n 0, 1) := by decide +kernel
theorem d9_label_9 : decode b9_label 9 = .ok (.iconst 1, 1) := by decide +kernel
theorem d9_label_10 : decode b9_label 10 = .ok (.putfield 125, 3) := by decide +kernel
theorem d9_label_13 : decode b9_label 13 = .ok (.iconst 0, 1) := by decide +kernel
theorem d9_label_14 : decode b9_label 14 = .ok (.ireturn, 1) := by decide +kernel
theorem d9_label_15 : decode b9_label 15 = .ok (.aload_n 0, 1) := by decide +kernel
theorem d9_label_16 : decode b9_label 16 = .ok (.getfield 128, 3) := by decide +kernel
theorem d9_label_19 : decode b9_label 19 = .ok (.iconst 1, 1) := by decide +kernel
theorem d9_label_20 : decode b9_label 20 = .ok (.isub, 1) := by decide +kernel
theorem d9_label_21 : decode b9_label 21 = .ok (.iload_n 1, 1) := by decide +kernel
theorem d9_label_22 : decode b9_label 22 = .ok (.isub, 1) := by decide +kernel
theorem d9_label_23 : decode b9_label 23 = .ok (.istore_n 2, 1) := by decide +kernel
theorem d9_label_24 : decode b9_label 24 = .ok (.aload_n 0, 1) := by decide +kernel
theorem d9_label_25 : decode b9_label 25 = .ok (.getfield 44, 3) := by decide +kernel
theorem d9_label_28 : decode b9_label 28 = .ok (.iload_n 2, 1) := by decide +kernel
theorem d9_label_29 : decode b9_label 29 = .ok (.iaload, 1) := by decide +kernel
theorem d9_label_30 : decode b9_label 30 = .ok (.iconst 3, 1) := by decide +kernel
theorem d9_label_31 : decode b9_label 31 = .ok (.if_icmp .ne 7, 3) := by decide +kernel
theorem d9_label_34 : decode b9_label 34 = .ok (.iconst 0, 1) := by decide +kernel
theorem d9_label_35 : decode b9_label 35 = .ok (.goto 9, 3) := by decide +kernel
theorem d9_label_38 : decode b9_label 38 = .ok (.aload_n 0, 1) := by decide +kernel
theorem d9_label_39 : decode b9_label 39 = .ok (.getfield 47, 3) := by decide +kernel
theorem d9_label_42 : decode b9_label 42 = .ok (.iload_n 2, 1) := by decide +kernel
theorem d9_label_43 : decode b9_label 43 = .ok (.iaload, 1) := by decide +kernel
theorem d9_label_44 : decode b9_label 44 = .ok (.ireturn, 1) := by decide +kernel
theorem d9_checkJump_0 : decode b9_checkJump 0 = .ok (.iload_n 3, 1) := by decide +kernel
theorem d9_checkJump_1 : decode b9_checkJump 1 = .ok (.bipush 10, 2) := by decide +kernel
theorem d9_checkJump_3 : decode b9_checkJump 3 = .ok (.if_icmp .ne 16, 3) := by decide +kernel
theorem d9_checkJump_6 : decode b9_checkJump 6 = .ok (.aload_n 0, 1) := by decide +kernel
theorem d9_checkJump_7 : decode b9_checkJump 7 = .ok (.aload_n 0, 1) := by decide +kernel
theorem d9_checkJump_8 : decode b9_checkJump 8 = .ok (.getfield 47, 3) := by decide +kernel
theorem d9_checkJump_11 : decode b9_checkJump 11 = .ok (.iconst 0, 1) := by decide +kernel
theorem d9_checkJump_12 : decode b9_checkJump 12 = .ok (.iaload, 1) := by decide +kernel
theorem d9_checkJump_13 : decode b9_checkJump 13 = .ok (.invokevirtual 142, 3) := by decide +kernel
theorem d9_checkJump_16 : decode b9_checkJump 16 = .ok (.goto 132, 3) := by decide +kernel
theorem d9_checkJump_19 : decode b9_checkJump 19 = .ok (.iload_n 3, 1) := by decide +kernel
theorem d9_checkJump_20 : decode b9_checkJump 20 = .ok (.bipush 9, 2) := by decide +kernel
theorem d9_checkJump_22 : decode b9_checkJump 22 = .ok (.if_icmp .ne 82, 3) := by decide +kernel
theorem d9_checkJump_25 : decode b9_checkJump 25 = .ok (.aload_n 0, 1) := by decide +kernel
theorem d9_checkJump_26 : decode b9_checkJump 26 = .ok (.iconst 1, 1) := by decide +kernel
theorem d9_checkJump_27 : decode b9_checkJump 27 = .ok (.invokevirtual 135, 3) := by decide +kernel
theorem d9_checkJump_30 : decode b9_checkJump 30 = .ok (.aload_n 0, 1) := by decide +kernel
theorem d9_checkJump_31 : decode b9_checkJump 31 = .ok (.iload_n 1, 1) := by decide +kernel
theorem d9_checkJump_32 : decode b9_checkJump 32 = .ok (.iload_n 2, 1) := by decide +kernel
theorem d9_checkJump_33 : decode b9_checkJump 33 = .ok (.iconst 1, 1) := by decide +kernel
theorem d9_checkJump_34 : decode b9_checkJump 34 = .ok (.iadd, 1) := by decide +kernel
theorem d9_checkJump_35 : decode b9_checkJump 35 = .ok (.invokevirtual 115, 3) := by decide +kernel
theorem d9_checkJump_38 : decode b9_checkJump 38 = .ok (.istore 4, 2) := by decide +kernel
theorem d9_checkJump_40 : decode b9_checkJump 40 = .ok (.aload_n 0, 1) := by decide +kernel
theorem d9_checkJump_41 : decode b9_checkJump 41 = .ok (.aload_n 0, 1) := by decide +kernel
theorem d9_checkJump_42 : decode b9_checkJump 42 = .ok (.iload_n 1, 1) := by decide +kernel
theorem d9_checkJump_43 : decode b9_checkJump 43 = .ok (.iload_n 2, 1) := by decide +kernel
theorem d9_checkJump_44 : decode b9_checkJump 44 = .ok (.iconst 2, 1) := by decide +kernel
theorem d9_checkJump_45 : decode b9_checkJump 45 = .ok (.iadd, 1) := by decide +kernel
theorem d9_checkJump_46 : decode b9_checkJump 46 = .ok (.invokevirtual 115, 3) := by decide +kernel
theorem d9_checkJump_49 : decode b9_checkJump 49 = .ok (.invokevirtual 148, 3) := by decide +kernel
theorem d9_checkJump_52 : decode b9_checkJump 52 = .ok (.istore 5, 2) := by decide +kernel
theorem d9_checkJump_54 : decode b9_checkJump 54 = .ok (.iconst 0, 1) := by decide +kernel
theorem d9_checkJump_55 : decode b9_checkJump 55 = .ok (.istore 6, 2) := by decide +kernel
theorem d9_checkJump_57 : decode b9_checkJump 57 = .ok (.iload 6, 2) := by decide +kernel
theorem d9_checkJump_59 : decode b9_checkJump 59 = .ok (.iload 4, 2) := by decide +kernel
theorem d9_checkJump_61 : decode b9_checkJump 61 = .ok (.if_icmp .gt 34, 3) := by decide +kernel
theorem d9_checkJump_64 : decode b9_checkJump 64 = .ok (.aload_n 0, 1) := by decide +kernel
theorem d9_checkJump_65 : decode b9_checkJump 65 = .ok (.aload_n 0, 1) := by decide +kernel
theorem d9_checkJump_66 : decode b9_checkJump 66 = .ok (.iload_n 1, 1) := by decide +kernel
theorem d9_checkJump_67 : decode b9_checkJump 67 = .ok (.iload_n 2, 1) := by decide +kernel
theorem d9_checkJump_68 : decode b9_checkJump 68 = .ok (.iconst 2, 1) := by decide +kernel
theorem d9_checkJump_69 : decode b9_checkJump 69 = .ok (.iadd, 1) := by decide +kernel
theorem d9_checkJump_70 : decode b9_checkJump 70 = .ok (.iload 6, 2) := by decide +kernel
theorem d9_checkJump_72 : decode b9_checkJump 72 = .ok (.iadd, 1) := by decide +kernel
theorem d9_checkJump_73 : decode b9_checkJump 73 = .ok (.invokevirtual 115, 3) := by decide +kernel
theorem d9_checkJump_76 : decode b9_checkJump 76 = .ok (.invokevirtual 148, 3) := by decide +kernel
theorem d9_checkJump_79 : decode b9_checkJump 79 = .ok (.iload 5, 2) := by decide +kernel
theorem d9_checkJump_81 : decode b9_checkJump 81 = .ok (.if_icmp .eq 8, 3) := by decide +kernel
theorem d9_checkJump_84 : decode b9_checkJump 84 = .ok (.aload_n 0, 1) := by decide +kernel
theorem d9_checkJump_85 : decode b9_checkJump 85 = .ok (.iconst 1, 1) := by decide +kernel
theorem d9_checkJump_86 : decode b9_checkJump 86 = .ok (.putfield 125, 3) := by decide +kernel
theorem d9_checkJump_89 : decode b9_checkJump 89 = .ok (.iinc 6 1, 3) := by decide +kernel
theorem d9_checkJump_92 : decode b9_checkJump 92 = .ok (.goto (-35), 3) := by decide +kernel
theorem d9_checkJump_95 : decode b9_checkJump 95 = .ok (.aload_n 0, 1) := by decide +kernel
theorem d9_checkJump_96 : decode b9_checkJump 96 = .ok (.iload 5, 2) := by decide +kernel
theorem d9_checkJump_98 : decode b9_checkJump 98 = .ok (.invokevirtual 142, 3) := by decide +kernel
theorem d9_checkJump_101 : decode b9_checkJump 101 = .ok (.goto 47, 3) := by decide +kernel
theorem d9_checkJump_104 : decode b9_checkJump 104 = .ok (.iload_n 3, 1) := by decide +kernel
theorem d9_checkJump_105 : decode b9_checkJump 105 = .ok (.bipush 8, 2) := by decide +kernel
theorem d9_checkJump_107 : decode b9_checkJump 107 = .ok (.if_icmp .ne 8, 3) := by decide +kernel
theorem d9_checkJump_110 : decode b9_checkJump 110 = .ok (.aload_n 0, 1) := by decide +kernel
theorem d9_checkJump_111 : decode b9_checkJump 111 = .ok (.iconst 1, 1) := by decide +kernel
theorem d9_checkJump_112 : decode b9_checkJump 112 = .ok (.invokevirtual 135, 3) := by decide +kernel
theorem d9_checkJump_115 : decode b9_checkJump 115 = .ok (.aload_n 0, 1) := by decide +kernel
theorem d9_checkJump_116 : decode b9_checkJump 116 = .ok (.aload_n 0, 1) := by decide +kernel
theorem d9_checkJump_117 : decode b9_checkJump 117 = .ok (.iload_n 1, 1) := by decide +kernel
theorem d9_checkJump_118 : decode b9_checkJump 118 = .ok (.iload_n 2, 1) := by decide +kernel
theorem d9_checkJump_119 : decode b9_checkJump 119 = .ok (.iconst 1, 1) := by decide +kernel
theorem d9_checkJump_120 : decode b9_checkJump 120 = .ok (.iadd, 1) := by decide +kernel
theorem d9_checkJump_121 : decode b9_checkJump 121 = .ok (.invokevirtual 115, 3) := by decide +kernel
theorem d9_checkJump_124 : decode b9_checkJump 124 = .ok (.invokevirtual 148, 3) := by decide +kernel
theorem d9_checkJump_127 : decode b9_checkJump 127 = .ok (.istore 4, 2) := by decide +kernel
theorem d9_checkJump_129 : decode b9_checkJump 129 = .ok (.aload_n 0, 1) := by decide +kernel
theorem d9_checkJump_130 : decode b9_checkJump 130 = .ok (.iload 4, 2) := by decide +kernel
theorem d9_checkJump_132 : decode b9_checkJump 132 = .ok (.invokevirtual 142, 3) := by decide +kernel
theorem d9_checkJump_135 : decode b9_checkJump 135 = .ok (.iload_n 3, 1) := by decide +kernel
theorem d9_checkJump_136 : decode b9_checkJump 136 = .ok (.bipush 8, 2) := by decide +kernel
theorem d9_checkJump_138 : decode b9_checkJump 138 = .ok (.if_icmp .ne 10, 3) := by decide +kernel
theorem d9_checkJump_141 : decode b9_checkJump 141 = .ok (.aload_n 0, 1) := by decide +kernel
theorem d9_checkJump_142 : decode b9_checkJump 142 = .ok (.iload 4, 2) := by decide +kernel
theorem d9_checkJump_144 : decode b9_checkJump 144 = .ok (.invokevirtual 145, 3) := by decide +kernel
theorem d9_checkJump_147 : decode b9_checkJump 147 = .ok (.return_, 1) := by decide +kernel
theorem d9_checkJump_148 : decode b9_checkJump 148 = .ok (.aload_n 0, 1) := by decide +kernel
theorem d9_checkJump_149 : decode b9_checkJump 149 = .ok (.getfield 125, 3) := by decide +kernel
theorem d9_checkJump_152 : decode b9_checkJump 152 = .ok (.ifCond .ne 7, 3) := by decide +kernel
theorem d9_checkJump_155 : decode b9_checkJump 155 = .ok (.aload_n 0, 1) := by decide +kernel
theorem d9_checkJump_156 : decode b9_checkJump 156 = .ok (.invokevirtual 151, 3) := by decide +kernel
theorem d9_checkJump_159 : decode b9_checkJump 159 = .ok (.return_, 1) := by decide +kernel
theorem d9_checkCall_0 : decode b9_checkCall 0 = .ok (.iload_n 2, 1) := by decide +kernel
theorem d9_checkCall_1 : decode b9_checkCall 1 = .ok (.bipush 12, 2) := by decide +kernel
theorem d9_checkCall_3 : decode b9_checkCall 3 = .ok (.if_icmp .ne 8, 3) := by decide +kernel
theorem d9_checkCall_6 : decode b9_checkCall 6 = .ok (.aload_n 0, 1) := by decide +kernel
theorem d9_checkCall_7 : decode b9_checkCall 7 = .ok (.iconst 1, 1) := by decide +kernel
theorem d9_checkCall_8 : decode b9_checkCall 8 = .ok (.invokevirtual 135, 3) := by decide +kernel
theorem d9_checkCall_11 : decode b9_checkCall 11 = .ok (.iload_n 1, 1) := by decide +kernel
theorem d9_checkCall_12 : decode b9_checkCall 12 = .ok (.iconst 5, 1) := by decide +kernel
theorem d9_checkCall_13 : decode b9_checkCall 13 = .ok (.if_icmp .gt 18, 3) := by decide +kernel
theorem d9_checkCall_16 : decode b9_checkCall 16 = .ok (.iload_n 2, 1) := by decide +kernel
theorem d9_checkCall_17 : decode b9_checkCall 17 = .ok (.bipush 11, 2) := by decide +kernel
theorem d9_checkCall_19 : decode b9_checkCall 19 = .ok (.if_icmp .ne 18, 3) := by decide +kernel
theorem d9_checkCall_22 : decode b9_checkCall 22 = .ok (.aload_n 0, 1) := by decide +kernel
theorem d9_checkCall_23 : decode b9_checkCall 23 = .ok (.getfield 25, 3) := by decide +kernel
theorem d9_checkCall_26 : decode b9_checkCall 26 = .ok (.iload_n 1, 1) := by decide +kernel
theorem d9_checkCall_27 : decode b9_checkCall 27 = .ok (.iaload, 1) := by decide +kernel
theorem d9_checkCall_28 : decode b9_checkCall 28 = .ok (.ifCond .ne 9, 3) := by decide +kernel
theorem d9_checkCall_31 : decode b9_checkCall 31 = .ok (.aload_n 0, 1) := by decide +kernel
theorem d9_checkCall_32 : decode b9_checkCall 32 = .ok (.iconst 1, 1) := by decide +kernel
theorem d9_checkCall_33 : decode b9_checkCall 33 = .ok (.putfield 125, 3) := by decide +kernel
theorem d9_checkCall_36 : decode b9_checkCall 36 = .ok (.return_, 1) := by decide +kernel
theorem d9_checkCall_37 : decode b9_checkCall 37 = .ok (.aload_n 0, 1) := by decide +kernel
theorem d9_checkCall_38 : decode b9_checkCall 38 = .ok (.getfield 13, 3) := by decide +kernel
theorem d9_checkCall_41 : decode b9_checkCall 41 = .ok (.iload_n 1, 1) := by decide +kernel
theorem d9_checkCall_42 : decode b9_checkCall 42 = .ok (.iaload, 1) := by decide +kernel
theorem d9_checkCall_43 : decode b9_checkCall 43 = .ok (.iconst 1, 1) := by decide +kernel
theorem d9_checkCall_44 : decode b9_checkCall 44 = .ok (.isub, 1) := by decide +kernel
theorem d9_checkCall_45 : decode b9_checkCall 45 = .ok (.istore_n 3, 1) := by decide +kernel
theorem d9_checkCall_46 : decode b9_checkCall 46 = .ok (.iload_n 3, 1) := by decide +kernel
theorem d9_checkCall_47 : decode b9_checkCall 47 = .ok (.ifCond .lt 24, 3) := by decide +kernel
theorem d9_checkCall_50 : decode b9_checkCall 50 = .ok (.aload_n 0, 1) := by decide +kernel
theorem d9_checkCall_51 : decode b9_checkCall 51 = .ok (.aload_n 0, 1) := by decide +kernel
theorem d9_checkCall_52 : decode b9_checkCall 52 = .ok (.getfield 7, 3) := by decide +kernel
theorem d9_checkCall_55 : decode b9_checkCall 55 = .ok (.bipush 6, 2) := by decide +kernel
theorem d9_checkCall_57 : decode b9_checkCall 57 = .ok (.iload_n 1, 1) := by decide +kernel
theorem d9_checkCall_58 : decode b9_checkCall 58 = .ok (.imul, 1) := by decide +kernel
theorem d9_checkCall_59 : decode b9_checkCall 59 = .ok (.iload_n 3, 1) := by decide +kernel
theorem d9_checkCall_60 : decode b9_checkCall 60 = .ok (.iadd, 1) := by decide +kernel
theorem d9_checkCall_61 : decode b9_checkCall 61 = .ok (.iaload, 1) := by decide +kernel
theorem d9_checkCall_62 : decode b9_checkCall 62 = .ok (.invokevirtual 135, 3) := by decide +kernel
theorem d9_checkCall_65 : decode b9_checkCall 65 = .ok (.iinc 3 (-1), 3) := by decide +kernel
theorem d9_checkCall_68 : decode b9_checkCall 68 = .ok (.goto (-22), 3) := by decide +kernel
theorem d9_checkCall_71 : decode b9_checkCall 71 = .ok (.aload_n 0, 1) := by decide +kernel
theorem d9_checkCall_72 : decode b9_checkCall 72 = .ok (.aload_n 0, 1) := by decide +kernel
theorem d9_checkCall_73 : decode b9_checkCall 73 = .ok (.getfield 19, 3) := by decide +kernel
theorem d9_checkCall_76 : decode b9_checkCall 76 = .ok (.iload_n 1, 1) := by decide +kernel
theorem d9_checkCall_77 : decode b9_checkCall 77 = .ok (.iaload, 1) := by decide +kernel
theorem d9_checkCall_78 : decode b9_checkCall 78 = .ok (.invokevirtual 145, 3) := by decide +kernel
theorem d9_checkCall_81 : decode b9_checkCall 81 = .ok (.return_, 1) := by decide +kernel
theorem d9_checkSelect_0 : decode b9_checkSelect 0 = .ok (.aload_n 0, 1) := by decide +kernel
theorem d9_checkSelect_1 : decode b9_checkSelect 1 = .ok (.iconst 1, 1) := by decide +kernel
theorem d9_checkSelect_2 : decode b9_checkSelect 2 = .ok (.invokevirtual 135, 3) := by decide +kernel
theorem d9_checkSelect_5 : decode b9_checkSelect 5 = .ok (.aload_n 0, 1) := by decide +kernel
theorem d9_checkSelect_6 : decode b9_checkSelect 6 = .ok (.invokevirtual 131, 3) := by decide +kernel
theorem d9_checkSelect_9 : decode b9_checkSelect 9 = .ok (.istore_n 1, 1) := by decide +kernel
theorem d9_checkSelect_10 : decode b9_checkSelect 10 = .ok (.aload_n 0, 1) := by decide +kernel
theorem d9_checkSelect_11 : decode b9_checkSelect 11 = .ok (.invokevirtual 131, 3) := by decide +kernel
theorem d9_checkSelect_14 : decode b9_checkSelect 14 = .ok (.istore_n 2, 1) := by decide +kernel
theorem d9_checkSelect_15 : decode b9_checkSelect 15 = .ok (.iload_n 2, 1) := by decide +kernel
theorem d9_checkSelect_16 : decode b9_checkSelect 16 = .ok (.iconst 4, 1) := by decide +kernel
theorem d9_checkSelect_17 : decode b9_checkSelect 17 = .ok (.if_icmp .eq 18, 3) := by decide +kernel
theorem d9_checkSelect_20 : decode b9_checkSelect 20 = .ok (.iload_n 1, 1) := by decide +kernel
theorem d9_checkSelect_21 : decode b9_checkSelect 21 = .ok (.iconst 4, 1) := by decide +kernel
theorem d9_checkSelect_22 : decode b9_checkSelect 22 = .ok (.if_icmp .eq 13, 3) := by decide +kernel
theorem d9_checkSelect_25 : decode b9_checkSelect 25 = .ok (.iload_n 2, 1) := by decide +kernel
theorem d9_checkSelect_26 : decode b9_checkSelect 26 = .ok (.iload_n 1, 1) := by decide +kernel
theorem d9_checkSelect_27 : decode b9_checkSelect 27 = .ok (.if_icmp .eq 8, 3) := by decide +kernel
theorem d9_checkSelect_30 : decode b9_checkSelect 30 = .ok (.aload_n 0, 1) := by decide +kernel
theorem d9_checkSelect_31 : decode b9_checkSelect 31 = .ok (.iconst 1, 1) := by decide +kernel
theorem d9_checkSelect_32 : decode b9_checkSelect 32 = .ok (.putfield 125, 3) := by decide +kernel
theorem d9_checkSelect_35 : decode b9_checkSelect 35 = .ok (.aload_n 0, 1) := by decide +kernel
theorem d9_checkSelect_36 : decode b9_checkSelect 36 = .ok (.iload_n 2, 1) := by decide +kernel
theorem d9_checkSelect_37 : decode b9_checkSelect 37 = .ok (.iconst 4, 1) := by decide +kernel
theorem d9_checkSelect_38 : decode b9_checkSelect 38 = .ok (.if_icmp .ne 7, 3) := by decide +kernel
theorem d9_checkSelect_41 : decode b9_checkSelect 41 = .ok (.iload_n 1, 1) := by decide +kernel
theorem d9_checkSelect_42 : decode b9_checkSelect 42 = .ok (.goto 4, 3) := by decide +kernel
theorem d9_checkSelect_45 : decode b9_checkSelect 45 = .ok (.iload_n 2, 1) := by decide +kernel
theorem d9_checkSelect_46 : decode b9_checkSelect 46 = .ok (.invokevirtual 139, 3) := by decide +kernel
theorem d9_checkSelect_49 : decode b9_checkSelect 49 = .ok (.return_, 1) := by decide +kernel
theorem d9_checkVariable_0 : decode b9_checkVariable 0 = .ok (.iload_n 2, 1) := by decide +kernel
theorem d9_checkVariable_1 : decode b9_checkVariable 1 = .ok (.bipush 18, 2) := by decide +kernel
theorem d9_checkVariable_3 : decode b9_checkVariable 3 = .ok (.if_icmp .lt 7, 3) := by decide +kernel
theorem d9_checkVariable_6 : decode b9_checkVariable 6 = .ok (.iconst 1, 1) := by decide +kernel
theorem d9_checkVariable_7 : decode b9_checkVariable 7 = .ok (.goto 4, 3) := by decide +kernel
theorem d9_checkVariable_10 : decode b9_checkVariable 10 = .ok (.iconst 0, 1) := by decide +kernel
theorem d9_checkVariable_11 : decode b9_checkVariable 11 = .ok (.istore 4, 2) := by decide +kernel
theorem d9_checkVariable_13 : decode b9_checkVariable 13 = .ok (.iload_n 3, 1) := by decide +kernel
theorem d9_checkVariable_14 : decode b9_checkVariable 14 = .ok (.iload 4, 2) := by decide +kernel
theorem d9_checkVariable_16 : decode b9_checkVariable 16 = .ok (.ifCond .eq 7, 3) := by decide +kernel
theorem d9_checkVariable_19 : decode b9_checkVariable 19 = .ok (.iconst 3, 1) := by decide +kernel
theorem d9_checkVariable_20 : decode b9_checkVariable 20 = .ok (.goto 9, 3) := by decide +kernel
theorem d9_checkVariable_23 : decode b9_checkVariable 23 = .ok (.aload_n 0, 1) := by decide +kernel
theorem d9_checkVariable_24 : decode b9_checkVariable 24 = .ok (.getfield 16, 3) := by decide +kernel
theorem d9_checkVariable_27 : decode b9_checkVariable 27 = .ok (.iload_n 1, 1) := by decide +kernel
theorem d9_checkVariable_28 : decode b9_checkVariable 28 = .ok (.iaload, 1) := by decide +kernel
theorem d9_checkVariable_29 : decode b9_checkVariable 29 = .ok (.if_icmp .lt 9, 3) := by decide +kernel
theorem d9_checkVariable_32 : decode b9_checkVariable 32 = .ok (.aload_n 0, 1) := by decide +kernel
theorem d9_checkVariable_33 : decode b9_checkVariable 33 = .ok (.iconst 1, 1) := by decide +kernel
theorem d9_checkVariable_34 : decode b9_checkVariable 34 = .ok (.putfield 125, 3) := by decide +kernel
theorem d9_checkVariable_37 : decode b9_checkVariable 37 = .ok (.return_, 1) := by decide +kernel
theorem d9_checkVariable_38 : decode b9_checkVariable 38 = .ok (.iload 4, 2) := by decide +kernel
theorem d9_checkVariable_40 : decode b9_checkVariable 40 = .ok (.ifCond .eq 9, 3) := by decide +kernel
theorem d9_checkVariable_43 : decode b9_checkVariable 43 = .ok (.iload_n 3, 1) := by decide +kernel
theorem d9_checkVariable_44 : decode b9_checkVariable 44 = .ok (.iconst 1, 1) := by decide +kernel
theorem d9_checkVariable_45 : decode b9_checkVariable 45 = .ok (.iadd, 1) := by decide +kernel
theorem d9_checkVariable_46 : decode b9_checkVariable 46 = .ok (.goto 14, 3) := by decide +kernel
theorem d9_checkVariable_49 : decode b9_checkVariable 49 = .ok (.aload_n 0, 1) := by decide +kernel
theorem d9_checkVariable_50 : decode b9_checkVariable 50 = .ok (.getfield 7, 3) := by decide +kernel
theorem d9_checkVariable_53 : decode b9_checkVariable 53 = .ok (.bipush 6, 2) := by decide +kernel
theorem d9_checkVariable_55 : decode b9_checkVariable 55 = .ok (.iload_n 1, 1) := by decide +kernel
theorem d9_checkVariable_56 : decode b9_checkVariable 56 = .ok (.imul, 1) := by decide +kernel
theorem d9_checkVariable_57 : decode b9_checkVariable 57 = .ok (.iload_n 3, 1) := by decide +kernel
theorem d9_checkVariable_58 : decode b9_checkVariable 58 = .ok (.iadd, 1) := by decide +kernel
theorem d9_checkVariable_59 : decode b9_checkVariable 59 = .ok (.iaload, 1) := by decide +kernel
theorem d9_checkVariable_60 : decode b9_checkVariable 60 = .ok (.istore 5, 2) := by decide +kernel
theorem d9_checkVariable_62 : decode b9_checkVariable 62 = .ok (.iload_n 2, 1) := by decide +kernel
theorem d9_checkVariable_63 : decode b9_checkVariable 63 = .ok (.bipush 16, 2) := by decide +kernel
theorem d9_checkVariable_65 : decode b9_checkVariable 65 = .ok (.if_icmp .eq 15, 3) := by decide +kernel
theorem d9_checkVariable_68 : decode b9_checkVariable 68 = .ok (.iload_n 2, 1) := by decide +kernel
theorem d9_checkVariable_69 : decode b9_checkVariable 69 = .ok (.bipush 17, 2) := by decide +kernel
theorem d9_checkVariable_71 : decode b9_checkVariable 71 = .ok (.if_icmp .eq 9, 3) := by decide +kernel
theorem d9_checkVariable_74 : decode b9_checkVariable 74 = .ok (.iload_n 2, 1) := by decide +kernel
theorem d9_checkVariable_75 : decode b9_checkVariable 75 = .ok (.bipush 19, 2) := by decide +kernel
theorem d9_checkVariable_77 : decode b9_checkVariable 77 = .ok (.if_icmp .ne 9, 3) := by decide +kernel
theorem d9_checkVariable_80 : decode b9_checkVariable 80 = .ok (.aload_n 0, 1) := by decide +kernel
theorem d9_checkVariable_81 : decode b9_checkVariable 81 = .ok (.iload 5, 2) := by decide +kernel
theorem d9_checkVariable_83 : decode b9_checkVariable 83 = .ok (.invokevirtual 135, 3) := by decide +kernel
theorem d9_checkVariable_86 : decode b9_checkVariable 86 = .ok (.iload_n 2, 1) := by decide +kernel
theorem d9_checkVariable_87 : decode b9_checkVariable 87 = .ok (.bipush 15, 2) := by decide +kernel
theorem d9_checkVariable_89 : decode b9_checkVariable 89 = .ok (.if_icmp .eq 15, 3) := by decide +kernel
theorem d9_checkVariable_92 : decode b9_checkVariable 92 = .ok (.iload_n 2, 1) := by decide +kernel
theorem d9_checkVariable_93 : decode b9_checkVariable 93 = .ok (.bipush 17, 2) := by decide +kernel
theorem d9_checkVariable_95 : decode b9_checkVariable 95 = .ok (.if_icmp .eq 9, 3) := by decide +kernel
theorem d9_checkVariable_98 : decode b9_checkVariable 98 = .ok (.iload_n 2, 1) := by decide +kernel
theorem d9_checkVariable_99 : decode b9_checkVariable 99 = .ok (.bipush 18, 2) := by decide +kernel
theorem d9_checkVariable_101 : decode b9_checkVariable 101 = .ok (.if_icmp .ne 9, 3) := by decide +kernel
theorem d9_checkVariable_104 : decode b9_checkVariable 104 = .ok (.aload_n 0, 1) := by decide +kernel
theorem d9_checkVariable_105 : decode b9_checkVariable 105 = .ok (.iload 5, 2) := by decide +kernel
theorem d9_checkVariable_107 : decode b9_checkVariable 107 = .ok (.invokevirtual 139, 3) := by decide +kernel
theorem d9_checkVariable_110 : decode b9_checkVariable 110 = .ok (.return_, 1) := by decide +kernel
theorem d9_checkPlain_0 : decode b9_checkPlain 0 = .ok (.iload_n 1, 1) := by decide +kernel
theorem d9_checkPlain_1 : decode b9_checkPlain 1 = .ok (.bipush 20, 2) := by decide +kernel
theorem d9_checkPlain_3 : decode b9_checkPlain 3 = .ok (.if_icmp .lt 20, 3) := by decide +kernel
theorem d9_checkPlain_6 : decode b9_checkPlain 6 = .ok (.iload_n 1, 1) := by decide +kernel
theorem d9_checkPlain_7 : decode b9_checkPlain 7 = .ok (.bipush 22, 2) := by decide +kernel
theorem d9_checkPlain_9 : decode b9_checkPlain 9 = .ok (.if_icmp .gt 14, 3) := by decide +kernel
theorem d9_checkPlain_12 : decode b9_checkPlain 12 = .ok (.aload_n 0, 1) := by decide +kernel
theorem d9_checkPlain_13 : decode b9_checkPlain 13 = .ok (.iload_n 1, 1) := by decide +kernel
theorem d9_checkPlain_14 : decode b9_checkPlain 14 = .ok (.bipush 19, 2) := by decide +kernel
theorem d9_checkPlain_16 : decode b9_checkPlain 16 = .ok (.isub, 1) := by decide +kernel
theorem d9_checkPlain_17 : decode b9_checkPlain 17 = .ok (.invokevirtual 139, 3) := by decide +kernel
theorem d9_checkPlain_20 : decode b9_checkPlain 20 = .ok (.goto 256, 3) := by decide +kernel
theorem d9_checkPlain_23 : decode b9_checkPlain 23 = .ok (.iload_n 1, 1) := by decide +kernel
theorem d9_checkPlain_24 : decode b9_checkPlain 24 = .ok (.bipush 28, 2) := by decide +kernel
theorem d9_checkPlain_26 : decode b9_checkPlain 26 = .ok (.if_icmp .gt 57, 3) := by decide +kernel
theorem d9_checkPlain_29 : decode b9_checkPlain 29 = .ok (.iload_n 1, 1) := by decide +kernel
theorem d9_checkPlain_30 : decode b9_checkPlain 30 = .ok (.bipush 28, 2) := by decide +kernel
theorem d9_checkPlain_32 : decode b9_checkPlain 32 = .ok (.if_icmp .ne 11, 3) := by decide +kernel
theorem d9_checkPlain_35 : decode b9_checkPlain 35 = .ok (.aload_n 0, 1) := by decide +kernel
theorem d9_checkPlain_36 : decode b9_checkPlain 36 = .ok (.iconst 2, 1) := by decide +kernel
theorem d9_checkPlain_37 : decode b9_checkPlain 37 = .ok (.invokevirtual 135, 3) := by decide +kernel
theorem d9_checkPlain_40 : decode b9_checkPlain 40 = .ok (.goto 14, 3) := by decide +kernel
theorem d9_checkPlain_43 : decode b9_checkPlain 43 = .ok (.iload_n 1, 1) := by decide +kernel
theorem d9_checkPlain_44 : decode b9_checkPlain 44 = .ok (.bipush 26, 2) := by decide +kernel
theorem d9_checkPlain_46 : decode b9_checkPlain 46 = .ok (.if_icmp .lt 8, 3) := by decide +kernel
theorem d9_checkPlain_49 : decode b9_checkPlain 49 = .ok (.aload_n 0, 1) := by decide +kernel
theorem d9_checkPlain_50 : decode b9_checkPlain 50 = .ok (.iconst 1, 1) := by decide +kernel
theorem d9_checkPlain_51 : decode b9_checkPlain 51 = .ok (.invokevirtual 135, 3) := by decide +kernel
theorem d9_checkPlain_54 : decode b9_checkPlain 54 = .ok (.aload_n 0, 1) := by decide +kernel
theorem d9_checkPlain_55 : decode b9_checkPlain 55 = .ok (.iconst 1, 1) := by decide +kernel
theorem d9_checkPlain_56 : decode b9_checkPlain 56 = .ok (.invokevirtual 135, 3) := by decide +kernel
theorem d9_checkPlain_59 : decode b9_checkPlain 59 = .ok (.iload_n 1, 1) := by decide +kernel
theorem d9_checkPlain_60 : decode b9_checkPlain 60 = .ok (.bipush 25, 2) := by decide +kernel
theorem d9_checkPlain_62 : decode b9_checkPlain 62 = .ok (.if_icmp .gt 214, 3) := by decide +kernel
theorem d9_checkPlain_65 : decode b9_checkPlain 65 = .ok (.aload_n 0, 1) := by decide +kernel
theorem d9_checkPlain_66 : decode b9_checkPlain 66 = .ok (.iload_n 1, 1) := by decide +kernel
theorem d9_checkPlain_67 : decode b9_checkPlain 67 = .ok (.bipush 25, 2) := by decide +kernel
theorem d9_checkPlain_69 : decode b9_checkPlain 69 = .ok (.if_icmp .ne 7, 3) := by decide +kernel
theorem d9_checkPlain_72 : decode b9_checkPlain 72 = .ok (.iconst 2, 1) := by decide +kernel
theorem d9_checkPlain_73 : decode b9_checkPlain 73 = .ok (.goto 4, 3) := by decide +kernel
theorem d9_checkPlain_76 : decode b9_checkPlain 76 = .ok (.iconst 1, 1) := by decide +kernel
theorem d9_checkPlain_77 : decode b9_checkPlain 77 = .ok (.invokevirtual 139, 3) := by decide +kernel
theorem d9_checkPlain_80 : decode b9_checkPlain 80 = .ok (.goto 196, 3) := by decide +kernel
theorem d9_checkPlain_83 : decode b9_checkPlain 83 = .ok (.iload_n 1, 1) := by decide +kernel
theorem d9_checkPlain_84 : decode b9_checkPlain 84 = .ok (.bipush 50, 2) := by decide +kernel
theorem d9_checkPlain_86 : decode b9_checkPlain 86 = .ok (.if_icmp .ge 7, 3) := by decide +kernel
theorem d9_checkPlain_89 : decode b9_checkPlain 89 = .ok (.iconst 1, 1) := by decide +kernel
theorem d9_checkPlain_90 : decode b9_checkPlain 90 = .ok (.goto 50, 3) := by decide +kernel
theorem d9_checkPlain_93 : decode b9_checkPlain 93 = .ok (.iload_n 1, 1) := by decide +kernel
theorem d9_checkPlain_94 : decode b9_checkPlain 94 = .ok (.bipush 65, 2) := by decide +kernel
theorem d9_checkPlain_96 : decode b9_checkPlain 96 = .ok (.if_icmp .ge 7, 3) := by decide +kernel
theorem d9_checkPlain_99 : decode b9_checkPlain 99 = .ok (.iconst 2, 1) := by decide +kernel
theorem d9_checkPlain_100 : decode b9_checkPlain 100 = .ok (.goto 40, 3) := by decide +kernel
theorem d9_checkPlain_103 : decode b9_checkPlain 103 = .ok (.iload_n 1, 1) := by decide +kernel
theorem d9_checkPlain_104 : decode b9_checkPlain 104 = .ok (.bipush 77, 2) := by decide +kernel
theorem d9_checkPlain_106 : decode b9_checkPlain 106 = .ok (.if_icmp .ge 7, 3) := by decide +kernel
theorem d9_checkPlain_109 : decode b9_checkPlain 109 = .ok (.iconst 3, 1) := by decide +kernel
theorem d9_checkPlain_110 : decode b9_checkPlain 110 = .ok (.goto 30, 3) := by decide +kernel
theorem d9_checkPlain_113 : decode b9_checkPlain 113 = .ok (.iload_n 1, 1) := by decide +kernel
theorem d9_checkPlain_114 : decode b9_checkPlain 114 = .ok (.bipush 80, 2) := by decide +kernel
theorem d9_checkPlain_116 : decode b9_checkPlain 116 = .ok (.if_icmp .eq 9, 3) := by decide +kernel
theorem d9_checkPlain_119 : decode b9_checkPlain 119 = .ok (.iload_n 1, 1) := by decide +kernel
theorem d9_checkPlain_120 : decode b9_checkPlain 120 = .ok (.bipush 84, 2) := by decide +kernel
theorem d9_checkPlain_122 : decode b9_checkPlain 122 = .ok (.if_icmp .ne 7, 3) := by decide +kernel
theorem d9_checkPlain_125 : decode b9_checkPlain 125 = .ok (.iconst 2, 1) := by decide +kernel
theorem d9_checkPlain_126 : decode b9_checkPlain 126 = .ok (.goto 14, 3) := by decide +kernel
theorem d9_checkPlain_129 : decode b9_checkPlain 129 = .ok (.iload_n 1, 1) := by decide +kernel
theorem d9_checkPlain_130 : decode b9_checkPlain 130 = .ok (.bipush 83, 2) := by decide +kernel
theorem d9_checkPlain_132 : decode b9_checkPlain 132 = .ok (.if_icmp .ne 7, 3) := by decide +kernel
theorem d9_checkPlain_135 : decode b9_checkPlain 135 = .ok (.iconst 3, 1) := by decide +kernel
theorem d9_checkPlain_136 : decode b9_checkPlain 136 = .ok (.goto 4, 3) := by decide +kernel
theorem d9_checkPlain_139 : decode b9_checkPlain 139 = .ok (.iconst 1, 1) := by decide +kernel
theorem d9_checkPlain_140 : decode b9_checkPlain 140 = .ok (.istore_n 2, 1) := by decide +kernel
theorem d9_checkPlain_141 : decode b9_checkPlain 141 = .ok (.iload_n 1, 1) := by decide +kernel
theorem d9_checkPlain_142 : decode b9_checkPlain 142 = .ok (.bipush 45, 2) := by decide +kernel
theorem d9_checkPlain_144 : decode b9_checkPlain 144 = .ok (.if_icmp .eq 15, 3) := by decide +kernel
theorem d9_checkPlain_147 : decode b9_checkPlain 147 = .ok (.iload_n 1, 1) := by decide +kernel
theorem d9_checkPlain_148 : decode b9_checkPlain 148 = .ok (.bipush 64, 2) := by decide +kernel
theorem d9_checkPlain_150 : decode b9_checkPlain 150 = .ok (.if_icmp .eq 9, 3) := by decide +kernel
theorem d9_checkPlain_153 : decode b9_checkPlain 153 = .ok (.iload_n 1, 1) := by decide +kernel
theorem d9_checkPlain_154 : decode b9_checkPlain 154 = .ok (.bipush 76, 2) := by decide +kernel
theorem d9_checkPlain_156 : decode b9_checkPlain 156 = .ok (.if_icmp .lt 7, 3) := by decide +kernel
theorem d9_checkPlain_159 : decode b9_checkPlain 159 = .ok (.iconst 1, 1) := by decide +kernel
theorem d9_checkPlain_160 : decode b9_checkPlain 160 = .ok (.goto 4, 3) := by decide +kernel
theorem d9_checkPlain_163 : decode b9_checkPlain 163 = .ok (.iconst 0, 1) := by decide +kernel
theorem d9_checkPlain_164 : decode b9_checkPlain 164 = .ok (.istore_n 3, 1) := by decide +kernel
theorem d9_checkPlain_165 : decode b9_checkPlain 165 = .ok (.aload_n 0, 1) := by decide +kernel
theorem d9_checkPlain_166 : decode b9_checkPlain 166 = .ok (.iload_n 2, 1) := by decide +kernel
theorem d9_checkPlain_167 : decode b9_checkPlain 167 = .ok (.invokevirtual 135, 3) := by decide +kernel
theorem d9_checkPlain_170 : decode b9_checkPlain 170 = .ok (.iload_n 3, 1) := by decide +kernel
theorem d9_checkPlain_171 : decode b9_checkPlain 171 = .ok (.ifCond .ne 8, 3) := by decide +kernel
theorem d9_checkPlain_174 : decode b9_checkPlain 174 = .ok (.aload_n 0, 1) := by decide +kernel
theorem d9_checkPlain_175 : decode b9_checkPlain 175 = .ok (.iload_n 2, 1) := by decide +kernel
theorem d9_checkPlain_176 : decode b9_checkPlain 176 = .ok (.invokevirtual 135, 3) := by decide +kernel
theorem d9_checkPlain_179 : decode b9_checkPlain 179 = .ok (.iload_n 1, 1) := by decide +kernel
theorem d9_checkPlain_180 : decode b9_checkPlain 180 = .ok (.bipush 50, 2) := by decide +kernel
theorem d9_checkPlain_182 : decode b9_checkPlain 182 = .ok (.if_icmp .ge 7, 3) := by decide +kernel
theorem d9_checkPlain_185 : decode b9_checkPlain 185 = .ok (.iconst 1, 1) := by decide +kernel
theorem d9_checkPlain_186 : decode b9_checkPlain 186 = .ok (.goto 82, 3) := by decide +kernel
theorem d9_checkPlain_189 : decode b9_checkPlain 189 = .ok (.iload_n 1, 1) := by decide +kernel
theorem d9_checkPlain_190 : decode b9_checkPlain 190 = .ok (.bipush 61, 2) := by decide +kernel
theorem d9_checkPlain_192 : decode b9_checkPlain 192 = .ok (.if_icmp .ge 7, 3) := by decide +kernel
theorem d9_checkPlain_195 : decode b9_checkPlain 195 = .ok (.iconst 2, 1) := by decide +kernel
theorem d9_checkPlain_196 : decode b9_checkPlain 196 = .ok (.goto 72, 3) := by decide +kernel
theorem d9_checkPlain_199 : decode b9_checkPlain 199 = .ok (.iload_n 1, 1) := by decide +kernel
theorem d9_checkPlain_200 : decode b9_checkPlain 200 = .ok (.bipush 65, 2) := by decide +kernel
theorem d9_checkPlain_202 : decode b9_checkPlain 202 = .ok (.if_icmp .ge 7, 3) := by decide +kernel
theorem d9_checkPlain_205 : decode b9_checkPlain 205 = .ok (.iconst 1, 1) := by decide +kernel
theorem d9_checkPlain_206 : decode b9_checkPlain 206 = .ok (.goto 62, 3) := by decide +kernel
theorem d9_checkPlain_209 : decode b9_checkPlain 209 = .ok (.iload_n 1, 1) := by decide +kernel
theorem d9_checkPlain_210 : decode b9_checkPlain 210 = .ok (.bipush 74, 2) := by decide +kernel
theorem d9_checkPlain_212 : decode b9_checkPlain 212 = .ok (.if_icmp .lt 9, 3) := by decide +kernel
theorem d9_checkPlain_215 : decode b9_checkPlain 215 = .ok (.iload_n 1, 1) := by decide +kernel
theorem d9_checkPlain_216 : decode b9_checkPlain 216 = .ok (.bipush 76, 2) := by decide +kernel
theorem d9_checkPlain_218 : decode b9_checkPlain 218 = .ok (.if_icmp .ne 7, 3) := by decide +kernel
theorem d9_checkPlain_221 : decode b9_checkPlain 221 = .ok (.iconst 3, 1) := by decide +kernel
theorem d9_checkPlain_222 : decode b9_checkPlain 222 = .ok (.goto 46, 3) := by decide +kernel
theorem d9_checkPlain_225 : decode b9_checkPlain 225 = .ok (.iload_n 1, 1) := by decide +kernel
theorem d9_checkPlain_226 : decode b9_checkPlain 226 = .ok (.bipush 76, 2) := by decide +kernel
theorem d9_checkPlain_228 : decode b9_checkPlain 228 = .ok (.if_icmp .ge 7, 3) := by decide +kernel
theorem d9_checkPlain_231 : decode b9_checkPlain 231 = .ok (.iconst 1, 1) := by decide +kernel
theorem d9_checkPlain_232 : decode b9_checkPlain 232 = .ok (.goto 36, 3) := by decide +kernel
theorem d9_checkPlain_235 : decode b9_checkPlain 235 = .ok (.iload_n 1, 1) := by decide +kernel
theorem d9_checkPlain_236 : decode b9_checkPlain 236 = .ok (.bipush 80, 2) := by decide +kernel
theorem d9_checkPlain_238 : decode b9_checkPlain 238 = .ok (.if_icmp .eq 9, 3) := by decide +kernel
theorem d9_checkPlain_241 : decode b9_checkPlain 241 = .ok (.iload_n 1, 1) := by decide +kernel
theorem d9_checkPlain_242 : decode b9_checkPlain 242 = .ok (.bipush 83, 2) := by decide +kernel
theorem d9_checkPlain_244 : decode b9_checkPlain 244 = .ok (.if_icmp .ne 7, 3) := by decide +kernel
theorem d9_checkPlain_247 : decode b9_checkPlain 247 = .ok (.iconst 1, 1) := by decide +kernel
theorem d9_checkPlain_248 : decode b9_checkPlain 248 = .ok (.goto 20, 3) := by decide +kernel
theorem d9_checkPlain_251 : decode b9_checkPlain 251 = .ok (.iload_n 1, 1) := by decide +kernel
theorem d9_checkPlain_252 : decode b9_checkPlain 252 = .ok (.bipush 82, 2) := by decide +kernel
theorem d9_checkPlain_254 : decode b9_checkPlain 254 = .ok (.if_icmp .eq 9, 3) := by decide +kernel
theorem d9_checkPlain_257 : decode b9_checkPlain 257 = .ok (.iload_n 1, 1) := by decide +kernel
theorem d9_checkPlain_258 : decode b9_checkPlain 258 = .ok (.bipush 84, 2) := by decide +kernel
theorem d9_checkPlain_260 : decode b9_checkPlain 260 = .ok (.if_icmp .ne 7, 3) := by decide +kernel
theorem d9_checkPlain_263 : decode b9_checkPlain 263 = .ok (.iconst 3, 1) := by decide +kernel
theorem d9_checkPlain_264 : decode b9_checkPlain 264 = .ok (.goto 4, 3) := by decide +kernel
theorem d9_checkPlain_267 : decode b9_checkPlain 267 = .ok (.iconst 2, 1) := by decide +kernel
theorem d9_checkPlain_268 : decode b9_checkPlain 268 = .ok (.istore 4, 2) := by decide +kernel
theorem d9_checkPlain_270 : decode b9_checkPlain 270 = .ok (.aload_n 0, 1) := by decide +kernel
theorem d9_checkPlain_271 : decode b9_checkPlain 271 = .ok (.iload 4, 2) := by decide +kernel
theorem d9_checkPlain_273 : decode b9_checkPlain 273 = .ok (.invokevirtual 139, 3) := by decide +kernel
theorem d9_checkPlain_276 : decode b9_checkPlain 276 = .ok (.return_, 1) := by decide +kernel
theorem d9_checkOne_0 : decode b9_checkOne 0 = .ok (.aload_n 0, 1) := by decide +kernel
theorem d9_checkOne_1 : decode b9_checkOne 1 = .ok (.iload_n 1, 1) := by decide +kernel
theorem d9_checkOne_2 : decode b9_checkOne 2 = .ok (.iload_n 2, 1) := by decide +kernel
theorem d9_checkOne_3 : decode b9_checkOne 3 = .ok (.invokevirtual 115, 3) := by decide +kernel
theorem d9_checkOne_6 : decode b9_checkOne 6 = .ok (.istore_n 3, 1) := by decide +kernel
theorem d9_checkOne_7 : decode b9_checkOne 7 = .ok (.iload_n 2, 1) := by decide +kernel
theorem d9_checkOne_8 : decode b9_checkOne 8 = .ok (.iconst 1, 1) := by decide +kernel
theorem d9_checkOne_9 : decode b9_checkOne 9 = .ok (.iadd, 1) := by decide +kernel
theorem d9_checkOne_10 : decode b9_checkOne 10 = .ok (.bipush 60, 2) := by decide +kernel
theorem d9_checkOne_12 : decode b9_checkOne 12 = .ok (.if_icmp .ge 14, 3) := by decide +kernel
theorem d9_checkOne_15 : decode b9_checkOne 15 = .ok (.aload_n 0, 1) := by decide +kernel
theorem d9_checkOne_16 : decode b9_checkOne 16 = .ok (.iload_n 1, 1) := by decide +kernel
theorem d9_checkOne_17 : decode b9_checkOne 17 = .ok (.iload_n 2, 1) := by decide +kernel
theorem d9_checkOne_18 : decode b9_checkOne 18 = .ok (.iconst 1, 1) := by decide +kernel
theorem d9_checkOne_19 : decode b9_checkOne 19 = .ok (.iadd, 1) := by decide +kernel
theorem d9_checkOne_20 : decode b9_checkOne 20 = .ok (.invokevirtual 115, 3) := by decide +kernel
theorem d9_checkOne_23 : decode b9_checkOne 23 = .ok (.goto 4, 3) := by decide +kernel
theorem d9_checkOne_26 : decode b9_checkOne 26 = .ok (.iconst 0, 1) := by decide +kernel
theorem d9_checkOne_27 : decode b9_checkOne 27 = .ok (.istore 4, 2) := by decide +kernel
theorem d9_checkOne_29 : decode b9_checkOne 29 = .ok (.iload_n 3, 1) := by decide +kernel
theorem d9_checkOne_30 : decode b9_checkOne 30 = .ok (.ifCond .ne 10, 3) := by decide +kernel
theorem d9_checkOne_33 : decode b9_checkOne 33 = .ok (.aload_n 0, 1) := by decide +kernel
theorem d9_checkOne_34 : decode b9_checkOne 34 = .ok (.invokevirtual 151, 3) := by decide +kernel
theorem d9_checkOne_37 : decode b9_checkOne 37 = .ok (.goto 165, 3) := by decide +kernel
theorem d9_checkOne_40 : decode b9_checkOne 40 = .ok (.iload_n 3, 1) := by decide +kernel
theorem d9_checkOne_41 : decode b9_checkOne 41 = .ok (.iconst 2, 1) := by decide +kernel
theorem d9_checkOne_42 : decode b9_checkOne 42 = .ok (.if_icmp .lt 18, 3) := by decide +kernel
theorem d9_checkOne_45 : decode b9_checkOne 45 = .ok (.iload_n 3, 1) := by decide +kernel
theorem d9_checkOne_46 : decode b9_checkOne 46 = .ok (.iconst 4, 1) := by decide +kernel
theorem d9_checkOne_47 : decode b9_checkOne 47 = .ok (.if_icmp .gt 13, 3) := by decide +kernel
theorem d9_checkOne_50 : decode b9_checkOne 50 = .ok (.aload_n 0, 1) := by decide +kernel
theorem d9_checkOne_51 : decode b9_checkOne 51 = .ok (.iload_n 3, 1) := by decide +kernel
theorem d9_checkOne_52 : decode b9_checkOne 52 = .ok (.iload 4, 2) := by decide +kernel
theorem d9_checkOne_54 : decode b9_checkOne 54 = .ok (.invokevirtual 154, 3) := by decide +kernel
theorem d9_checkOne_57 : decode b9_checkOne 57 = .ok (.goto 145, 3) := by decide +kernel
theorem d9_checkOne_60 : decode b9_checkOne 60 = .ok (.iload_n 3, 1) := by decide +kernel
theorem d9_checkOne_61 : decode b9_checkOne 61 = .ok (.iconst 5, 1) := by decide +kernel
theorem d9_checkOne_62 : decode b9_checkOne 62 = .ok (.if_icmp .eq 9, 3) := by decide +kernel
theorem d9_checkOne_65 : decode b9_checkOne 65 = .ok (.iload_n 3, 1) := by decide +kernel
theorem d9_checkOne_66 : decode b9_checkOne 66 = .ok (.bipush 6, 2) := by decide +kernel
theorem d9_checkOne_68 : decode b9_checkOne 68 = .ok (.if_icmp .ne 11, 3) := by decide +kernel
theorem d9_checkOne_71 : decode b9_checkOne 71 = .ok (.aload_n 0, 1) := by decide +kernel
theorem d9_checkOne_72 : decode b9_checkOne 72 = .ok (.iload_n 3, 1) := by decide +kernel
theorem d9_checkOne_73 : decode b9_checkOne 73 = .ok (.invokevirtual 158, 3) := by decide +kernel
theorem d9_checkOne_76 : decode b9_checkOne 76 = .ok (.goto 126, 3) := by decide +kernel
theorem d9_checkOne_79 : decode b9_checkOne 79 = .ok (.iload_n 3, 1) := by decide +kernel
theorem d9_checkOne_80 : decode b9_checkOne 80 = .ok (.bipush 7, 2) := by decide +kernel
theorem d9_checkOne_82 : decode b9_checkOne 82 = .ok (.if_icmp .lt 19, 3) := by decide +kernel
theorem d9_checkOne_85 : decode b9_checkOne 85 = .ok (.iload_n 3, 1) := by decide +kernel
theorem d9_checkOne_86 : decode b9_checkOne 86 = .ok (.bipush 10, 2) := by decide +kernel
theorem d9_checkOne_88 : decode b9_checkOne 88 = .ok (.if_icmp .gt 13, 3) := by decide +kernel
theorem d9_checkOne_91 : decode b9_checkOne 91 = .ok (.aload_n 0, 1) := by decide +kernel
theorem d9_checkOne_92 : decode b9_checkOne 92 = .ok (.iload_n 1, 1) := by decide +kernel
theorem d9_checkOne_93 : decode b9_checkOne 93 = .ok (.iload_n 2, 1) := by decide +kernel
theorem d9_checkOne_94 : decode b9_checkOne 94 = .ok (.iload_n 3, 1) := by decide +kernel
theorem d9_checkOne_95 : decode b9_checkOne 95 = .ok (.invokevirtual 161, 3) := by decide +kernel
theorem d9_checkOne_98 : decode b9_checkOne 98 = .ok (.goto 104, 3) := by decide +kernel
theorem d9_checkOne_101 : decode b9_checkOne 101 = .ok (.iload_n 3, 1) := by decide +kernel
theorem d9_checkOne_102 : decode b9_checkOne 102 = .ok (.bipush 11, 2) := by decide +kernel
theorem d9_checkOne_104 : decode b9_checkOne 104 = .ok (.if_icmp .eq 9, 3) := by decide +kernel
theorem d9_checkOne_107 : decode b9_checkOne 107 = .ok (.iload_n 3, 1) := by decide +kernel
theorem d9_checkOne_108 : decode b9_checkOne 108 = .ok (.bipush 12, 2) := by decide +kernel
theorem d9_checkOne_110 : decode b9_checkOne 110 = .ok (.if_icmp .ne 13, 3) := by decide +kernel
theorem d9_checkOne_113 : decode b9_checkOne 113 = .ok (.aload_n 0, 1) := by decide +kernel
theorem d9_checkOne_114 : decode b9_checkOne 114 = .ok (.iload 4, 2) := by decide +kernel
theorem d9_checkOne_116 : decode b9_checkOne 116 = .ok (.iload_n 3, 1) := by decide +kernel
theorem d9_checkOne_117 : decode b9_checkOne 117 = .ok (.invokevirtual 165, 3) := by decide +kernel
theorem d9_checkOne_120 : decode b9_checkOne 120 = .ok (.goto 82, 3) := by decide +kernel
theorem d9_checkOne_123 : decode b9_checkOne 123 = .ok (.iload_n 3, 1) := by decide +kernel
theorem d9_checkOne_124 : decode b9_checkOne 124 = .ok (.bipush 13, 2) := by decide +kernel
theorem d9_checkOne_126 : decode b9_checkOne 126 = .ok (.if_icmp .ne 29, 3) := by decide +kernel
theorem d9_checkOne_129 : decode b9_checkOne 129 = .ok (.aload_n 0, 1) := by decide +kernel
theorem d9_checkOne_130 : decode b9_checkOne 130 = .ok (.aload_n 0, 1) := by decide +kernel
theorem d9_checkOne_131 : decode b9_checkOne 131 = .ok (.invokevirtual 131, 3) := by decide +kernel
theorem d9_checkOne_134 : decode b9_checkOne 134 = .ok (.ifCond .lt 10, 3) := by decide +kernel
theorem d9_checkOne_137 : decode b9_checkOne 137 = .ok (.aload_n 0, 1) := by decide +kernel
theorem d9_checkOne_138 : decode b9_checkOne 138 = .ok (.getfield 125, 3) := by decide +kernel
theorem d9_checkOne_141 : decode b9_checkOne 141 = .ok (.ifCond .eq 7, 3) := by decide +kernel
theorem d9_checkOne_144 : decode b9_checkOne 144 = .ok (.iconst 1, 1) := by decide +kernel
theorem d9_checkOne_145 : decode b9_checkOne 145 = .ok (.goto 4, 3) := by decide +kernel
theorem d9_checkOne_148 : decode b9_checkOne 148 = .ok (.iconst 0, 1) := by decide +kernel
theorem d9_checkOne_149 : decode b9_checkOne 149 = .ok (.putfield 125, 3) := by decide +kernel
theorem d9_checkOne_152 : decode b9_checkOne 152 = .ok (.goto 50, 3) := by decide +kernel
theorem d9_checkOne_155 : decode b9_checkOne 155 = .ok (.iload_n 3, 1) := by decide +kernel
theorem d9_checkOne_156 : decode b9_checkOne 156 = .ok (.bipush 14, 2) := by decide +kernel
theorem d9_checkOne_158 : decode b9_checkOne 158 = .ok (.if_icmp .ne 10, 3) := by decide +kernel
theorem d9_checkOne_161 : decode b9_checkOne 161 = .ok (.aload_n 0, 1) := by decide +kernel
theorem d9_checkOne_162 : decode b9_checkOne 162 = .ok (.invokevirtual 168, 3) := by decide +kernel
theorem d9_checkOne_165 : decode b9_checkOne 165 = .ok (.goto 37, 3) := by decide +kernel
theorem d9_checkOne_168 : decode b9_checkOne 168 = .ok (.iload_n 3, 1) := by decide +kernel
theorem d9_checkOne_169 : decode b9_checkOne 169 = .ok (.bipush 15, 2) := by decide +kernel
theorem d9_checkOne_171 : decode b9_checkOne 171 = .ok (.if_icmp .lt 20, 3) := by decide +kernel
theorem d9_checkOne_174 : decode b9_checkOne 174 = .ok (.iload_n 3, 1) := by decide +kernel
theorem d9_checkOne_175 : decode b9_checkOne 175 = .ok (.bipush 19, 2) := by decide +kernel
theorem d9_checkOne_177 : decode b9_checkOne 177 = .ok (.if_icmp .gt 14, 3) := by decide +kernel
theorem d9_checkOne_180 : decode b9_checkOne 180 = .ok (.aload_n 0, 1) := by decide +kernel
theorem d9_checkOne_181 : decode b9_checkOne 181 = .ok (.iload_n 1, 1) := by decide +kernel
theorem d9_checkOne_182 : decode b9_checkOne 182 = .ok (.iload_n 3, 1) := by decide +kernel
theorem d9_checkOne_183 : decode b9_checkOne 183 = .ok (.iload 4, 2) := by decide +kernel
theorem d9_checkOne_185 : decode b9_checkOne 185 = .ok (.invokevirtual 171, 3) := by decide +kernel
theorem d9_checkOne_188 : decode b9_checkOne 188 = .ok (.goto 14, 3) := by decide +kernel
theorem d9_checkOne_191 : decode b9_checkOne 191 = .ok (.iload_n 3, 1) := by decide +kernel
theorem d9_checkOne_192 : decode b9_checkOne 192 = .ok (.bipush 19, 2) := by decide +kernel
theorem d9_checkOne_194 : decode b9_checkOne 194 = .ok (.if_icmp .le 8, 3) := by decide +kernel
theorem d9_checkOne_197 : decode b9_checkOne 197 = .ok (.aload_n 0, 1) := by decide +kernel
theorem d9_checkOne_198 : decode b9_checkOne 198 = .ok (.iload_n 3, 1) := by decide +kernel
theorem d9_checkOne_199 : decode b9_checkOne 199 = .ok (.invokevirtual 174, 3) := by decide +kernel
theorem d9_checkOne_202 : decode b9_checkOne 202 = .ok (.return_, 1) := by decide +kernel
theorem d9_find_0 : decode b9_find 0 = .ok (.aload_n 0, 1) := by decide +kernel
theorem d9_find_1 : decode b9_find 1 = .ok (.iconst 0, 1) := by decide +kernel
theorem d9_find_2 : decode b9_find 2 = .ok (.putfield 128, 3) := by decide +kernel
theorem d9_find_5 : decode b9_find 5 = .ok (.aload_n 0, 1) := by decide +kernel
theorem d9_find_6 : decode b9_find 6 = .ok (.iconst 0, 1) := by decide +kernel
theorem d9_find_7 : decode b9_find 7 = .ok (.putfield 122, 3) := by decide +kernel
theorem d9_find_10 : decode b9_find 10 = .ok (.aload_n 0, 1) := by decide +kernel
theorem d9_find_11 : decode b9_find 11 = .ok (.iconst 0, 1) := by decide +kernel
theorem d9_find_12 : decode b9_find 12 = .ok (.putfield 125, 3) := by decide +kernel
theorem d9_find_15 : decode b9_find 15 = .ok (.aload_n 0, 1) := by decide +kernel
theorem d9_find_16 : decode b9_find 16 = .ok (.iconst 0, 1) := by decide +kernel
theorem d9_find_17 : decode b9_find 17 = .ok (.aload_n 0, 1) := by decide +kernel
theorem d9_find_18 : decode b9_find 18 = .ok (.getfield 19, 3) := by decide +kernel
theorem d9_find_21 : decode b9_find 21 = .ok (.iload_n 1, 1) := by decide +kernel
theorem d9_find_22 : decode b9_find 22 = .ok (.iaload, 1) := by decide +kernel
theorem d9_find_23 : decode b9_find 23 = .ok (.invokevirtual 154, 3) := by decide +kernel
theorem d9_find_26 : decode b9_find 26 = .ok (.iconst 0, 1) := by decide +kernel
theorem d9_find_27 : decode b9_find 27 = .ok (.istore_n 2, 1) := by decide +kernel
theorem d9_find_28 : decode b9_find 28 = .ok (.iload_n 2, 1) := by decide +kernel
theorem d9_find_29 : decode b9_find 29 = .ok (.aload_n 0, 1) := by decide +kernel
theorem d9_find_30 : decode b9_find 30 = .ok (.getfield 25, 3) := by decide +kernel
theorem d9_find_33 : decode b9_find 33 = .ok (.iload_n 1, 1) := by decide +kernel
theorem d9_find_34 : decode b9_find 34 = .ok (.iaload, 1) := by decide +kernel
theorem d9_find_35 : decode b9_find 35 = .ok (.if_icmp .ge 107, 3) := by decide +kernel
theorem d9_find_38 : decode b9_find 38 = .ok (.aload_n 0, 1) := by decide +kernel
theorem d9_find_39 : decode b9_find 39 = .ok (.iload_n 1, 1) := by decide +kernel
theorem d9_find_40 : decode b9_find 40 = .ok (.iload_n 2, 1) := by decide +kernel
theorem d9_find_41 : decode b9_find 41 = .ok (.invokevirtual 115, 3) := by decide +kernel
theorem d9_find_44 : decode b9_find 44 = .ok (.istore_n 3, 1) := by decide +kernel
theorem d9_find_45 : decode b9_find 45 = .ok (.aload_n 0, 1) := by decide +kernel
theorem d9_find_46 : decode b9_find 46 = .ok (.getfield 128, 3) := by decide +kernel
theorem d9_find_49 : decode b9_find 49 = .ok (.ifCond .eq 40, 3) := by decide +kernel
theorem d9_find_52 : decode b9_find 52 = .ok (.iload_n 3, 1) := by decide +kernel
theorem d9_find_53 : decode b9_find 53 = .ok (.invokestatic 177, 3) := by decide +kernel
theorem d9_find_56 : decode b9_find 56 = .ok (.ifCond .eq 33, 3) := by decide +kernel
theorem d9_find_59 : decode b9_find 59 = .ok (.iload_n 3, 1) := by decide +kernel
theorem d9_find_60 : decode b9_find 60 = .ok (.bipush 9, 2) := by decide +kernel
theorem d9_find_62 : decode b9_find 62 = .ok (.if_icmp .ne 29, 3) := by decide +kernel
theorem d9_find_65 : decode b9_find 65 = .ok (.iload_n 2, 1) := by decide +kernel
theorem d9_find_66 : decode b9_find 66 = .ok (.iconst 1, 1) := by decide +kernel
theorem d9_find_67 : decode b9_find 67 = .ok (.iadd, 1) := by decide +kernel
theorem d9_find_68 : decode b9_find 68 = .ok (.aload_n 0, 1) := by decide +kernel
theorem d9_find_69 : decode b9_find 69 = .ok (.getfield 25, 3) := by decide +kernel
theorem d9_find_72 : decode b9_find 72 = .ok (.iload_n 1, 1) := by decide +kernel
theorem d9_find_73 : decode b9_find 73 = .ok (.iaload, 1) := by decide +kernel
theorem d9_find_74 : decode b9_find 74 = .ok (.if_icmp .ge 17, 3) := by decide +kernel
theorem d9_find_77 : decode b9_find 77 = .ok (.aload_n 0, 1) := by decide +kernel
theorem d9_find_78 : decode b9_find 78 = .ok (.iload_n 1, 1) := by decide +kernel
theorem d9_find_79 : decode b9_find 79 = .ok (.iload_n 2, 1) := by decide +kernel
theorem d9_find_80 : decode b9_find 80 = .ok (.iconst 1, 1) := by decide +kernel
theorem d9_find_81 : decode b9_find 81 = .ok (.iadd, 1) := by decide +kernel
theorem d9_find_82 : decode b9_find 82 = .ok (.invokevirtual 115, 3) := by decide +kernel
theorem d9_find_85 : decode b9_find 85 = .ok (.iconst 3, 1) := by decide +kernel
theorem d9_find_86 : decode b9_find 86 = .ok (.if_icmp .le 5, 3) := by decide +kernel
theorem d9_find_89 : decode b9_find 89 = .ok (.iload_n 2, 1) := by decide +kernel
theorem d9_find_90 : decode b9_find 90 = .ok (.ireturn, 1) := by decide +kernel
theorem d9_find_91 : decode b9_find 91 = .ok (.iload_n 2, 1) := by decide +kernel
theorem d9_find_92 : decode b9_find 92 = .ok (.iconst 1, 1) := by decide +kernel
theorem d9_find_93 : decode b9_find 93 = .ok (.iadd, 1) := by decide +kernel
theorem d9_find_94 : decode b9_find 94 = .ok (.aload_n 0, 1) := by decide +kernel
theorem d9_find_95 : decode b9_find 95 = .ok (.iload_n 1, 1) := by decide +kernel
theorem d9_find_96 : decode b9_find 96 = .ok (.iload_n 2, 1) := by decide +kernel
theorem d9_find_97 : decode b9_find 97 = .ok (.invokevirtual 119, 3) := by decide +kernel
theorem d9_find_100 : decode b9_find 100 = .ok (.iadd, 1) := by decide +kernel
theorem d9_find_101 : decode b9_find 101 = .ok (.istore 4, 2) := by decide +kernel
theorem d9_find_103 : decode b9_find 103 = .ok (.iload 4, 2) := by decide +kernel
theorem d9_find_105 : decode b9_find 105 = .ok (.aload_n 0, 1) := by decide +kernel
theorem d9_find_106 : decode b9_find 106 = .ok (.getfield 25, 3) := by decide +kernel
theorem d9_find_109 : decode b9_find 109 = .ok (.iload_n 1, 1) := by decide +kernel
theorem d9_find_110 : decode b9_find 110 = .ok (.iaload, 1) := by decide +kernel
theorem d9_find_111 : decode b9_find 111 = .ok (.if_icmp .le 10, 3) := by decide +kernel
theorem d9_find_114 : decode b9_find 114 = .ok (.aload_n 0, 1) := by decide +kernel
theorem d9_find_115 : decode b9_find 115 = .ok (.getfield 25, 3) := by decide +kernel
theorem d9_find_118 : decode b9_find 118 = .ok (.iload_n 1, 1) := by decide +kernel
theorem d9_find_119 : decode b9_find 119 = .ok (.iaload, 1) := by decide +kernel
theorem d9_find_120 : decode b9_find 120 = .ok (.ireturn, 1) := by decide +kernel
theorem d9_find_121 : decode b9_find 121 = .ok (.aload_n 0, 1) := by decide +kernel
theorem d9_find_122 : decode b9_find 122 = .ok (.iload_n 1, 1) := by decide +kernel
theorem d9_find_123 : decode b9_find 123 = .ok (.iload_n 2, 1) := by decide +kernel
theorem d9_find_124 : decode b9_find 124 = .ok (.invokevirtual 181, 3) := by decide +kernel
theorem d9_find_127 : decode b9_find 127 = .ok (.aload_n 0, 1) := by decide +kernel
theorem d9_find_128 : decode b9_find 128 = .ok (.getfield 125, 3) := by decide +kernel
theorem d9_find_131 : decode b9_find 131 = .ok (.ifCond .eq 5, 3) := by decide +kernel
theorem d9_find_134 : decode b9_find 134 = .ok (.iload_n 2, 1) := by decide +kernel
theorem d9_find_135 : decode b9_find 135 = .ok (.ireturn, 1) := by decide +kernel
theorem d9_find_136 : decode b9_find 136 = .ok (.iload 4, 2) := by decide +kernel
theorem d9_find_138 : decode b9_find 138 = .ok (.istore_n 2, 1) := by decide +kernel
theorem d9_find_139 : decode b9_find 139 = .ok (.goto (-111), 3) := by decide +kernel
theorem d9_find_142 : decode b9_find 142 = .ok (.aload_n 0, 1) := by decide +kernel
theorem d9_find_143 : decode b9_find 143 = .ok (.getfield 128, 3) := by decide +kernel
theorem d9_find_146 : decode b9_find 146 = .ok (.ifCond .ne 7, 3) := by decide +kernel
theorem d9_find_149 : decode b9_find 149 = .ok (.iconst (-1), 1) := by decide +kernel
theorem d9_find_150 : decode b9_find 150 = .ok (.goto 9, 3) := by decide +kernel
theorem d9_find_153 : decode b9_find 153 = .ok (.aload_n 0, 1) := by decide +kernel
theorem d9_find_154 : decode b9_find 154 = .ok (.getfield 25, 3) := by decide +kernel
theorem d9_find_157 : decode b9_find 157 = .ok (.iload_n 1, 1) := by decide +kernel
theorem d9_find_158 : decode b9_find 158 = .ok (.iaload, 1) := by decide +kernel
theorem d9_find_159 : decode b9_find 159 = .ok (.ireturn, 1) := by decide +kernel
theorem d9_check_0 : decode b9_check 0 = .ok (.aload_n 0, 1) := by decide +kernel
theorem d9_check_1 : decode b9_check 1 = .ok (.aload_n 0, 1) := by decide +kernel
theorem d9_check_2 : decode b9_check 2 = .ok (.getfield 104, 3) := by decide +kernel
theorem d9_check_5 : decode b9_check 5 = .ok (.iconst 1, 1) := by decide +kernel
theorem d9_check_6 : decode b9_check 6 = .ok (.if_icmp .eq 7, 3) := by decide +kernel
theorem d9_check_9 : decode b9_check 9 = .ok (.iconst 1, 1) := by decide +kernel
theorem d9_check_10 : decode b9_check 10 = .ok (.goto 4, 3) := by decide +kernel
theorem d9_check_13 : decode b9_check 13 = .ok (.iconst 0, 1) := by decide +kernel
theorem d9_check_14 : decode b9_check 14 = .ok (.iconst 1, 1) := by decide +kernel
theorem d9_check_15 : decode b9_check 15 = .ok (.invokevirtual 100, 3) := by decide +kernel
theorem d9_check_18 : decode b9_check 18 = .ok (.ifCond .ne 5, 3) := by decide +kernel
theorem d9_check_21 : decode b9_check 21 = .ok (.iconst 0, 1) := by decide +kernel
theorem d9_check_22 : decode b9_check 22 = .ok (.ireturn, 1) := by decide +kernel
theorem d9_check_23 : decode b9_check 23 = .ok (.iconst 0, 1) := by decide +kernel
theorem d9_check_24 : decode b9_check 24 = .ok (.istore_n 1, 1) := by decide +kernel
theorem d9_check_25 : decode b9_check 25 = .ok (.iconst 0, 1) := by decide +kernel
theorem d9_check_26 : decode b9_check 26 = .ok (.istore_n 2, 1) := by decide +kernel
theorem d9_check_27 : decode b9_check 27 = .ok (.iload_n 2, 1) := by decide +kernel
theorem d9_check_28 : decode b9_check 28 = .ok (.bipush 6, 2) := by decide +kernel
theorem d9_check_30 : decode b9_check 30 = .ok (.if_icmp .ge 44, 3) := by decide +kernel
theorem d9_check_33 : decode b9_check 33 = .ok (.aload_n 0, 1) := by decide +kernel
theorem d9_check_34 : decode b9_check 34 = .ok (.getfield 25, 3) := by decide +kernel
theorem d9_check_37 : decode b9_check 37 = .ok (.iload_n 2, 1) := by decide +kernel
theorem d9_check_38 : decode b9_check 38 = .ok (.iaload, 1) := by decide +kernel
theorem d9_check_39 : decode b9_check 39 = .ok (.ifCond .le 29, 3) := by decide +kernel
theorem d9_check_42 : decode b9_check 42 = .ok (.iinc 1 1, 3) := by decide +kernel
theorem d9_check_45 : decode b9_check 45 = .ok (.aload_n 0, 1) := by decide +kernel
theorem d9_check_46 : decode b9_check 46 = .ok (.aload_n 0, 1) := by decide +kernel
theorem d9_check_47 : decode b9_check 47 = .ok (.iload_n 2, 1) := by decide +kernel
theorem d9_check_48 : decode b9_check 48 = .ok (.invokevirtual 184, 3) := by decide +kernel
theorem d9_check_51 : decode b9_check 51 = .ok (.ifCond .ge 7, 3) := by decide +kernel
theorem d9_check_54 : decode b9_check 54 = .ok (.iconst 1, 1) := by decide +kernel
theorem d9_check_55 : decode b9_check 55 = .ok (.goto 4, 3) := by decide +kernel
theorem d9_check_58 : decode b9_check 58 = .ok (.iconst 0, 1) := by decide +kernel
theorem d9_check_59 : decode b9_check 59 = .ok (.iconst 2, 1) := by decide +kernel
theorem d9_check_60 : decode b9_check 60 = .ok (.invokevirtual 100, 3) := by decide +kernel
theorem d9_check_63 : decode b9_check 63 = .ok (.ifCond .ne 5, 3) := by decide +kernel
theorem d9_check_66 : decode b9_check 66 = .ok (.iconst 0, 1) := by decide +kernel
theorem d9_check_67 : decode b9_check 67 = .ok (.ireturn, 1) := by decide +kernel
theorem d9_check_68 : decode b9_check 68 = .ok (.iinc 2 1, 3) := by decide +kernel
theorem d9_check_71 : decode b9_check 71 = .ok (.goto (-44), 3) := by decide +kernel
theorem d9_check_74 : decode b9_check 74 = .ok (.aload_n 0, 1) := by decide +kernel
theorem d9_check_75 : decode b9_check 75 = .ok (.iconst 1, 1) := by decide +kernel
theorem d9_check_76 : decode b9_check 76 = .ok (.putfield 111, 3) := by decide +kernel
theorem d9_check_79 : decode b9_check 79 = .ok (.iload_n 1, 1) := by decide +kernel
theorem d9_check_80 : decode b9_check 80 = .ok (.ireturn, 1) := by decide +kernel
theorem d9_fault_0 : decode b9_fault 0 = .ok (.aload_n 0, 1) := by decide +kernel
theorem d9_fault_1 : decode b9_fault 1 = .ok (.iload_n 1, 1) := by decide +kernel
theorem d9_fault_2 : decode b9_fault 2 = .ok (.iconst 0, 1) := by decide +kernel
theorem d9_fault_3 : decode b9_fault 3 = .ok (.iconst 5, 1) := by decide +kernel
theorem d9_fault_4 : decode b9_fault 4 = .ok (.invokestatic 92, 3) := by decide +kernel
theorem d9_fault_7 : decode b9_fault 7 = .ok (.iconst 1, 1) := by decide +kernel
theorem d9_fault_8 : decode b9_fault 8 = .ok (.invokevirtual 100, 3) := by decide +kernel
theorem d9_fault_11 : decode b9_fault 11 = .ok (.ifCond .ne 5, 3) := by decide +kernel
theorem d9_fault_14 : decode b9_fault 14 = .ok (.iconst 0, 1) := by decide +kernel
theorem d9_fault_15 : decode b9_fault 15 = .ok (.ireturn, 1) := by decide +kernel
theorem d9_fault_16 : decode b9_fault 16 = .ok (.aload_n 0, 1) := by decide +kernel
theorem d9_fault_17 : decode b9_fault 17 = .ok (.getfield 122, 3) := by decide +kernel
theorem d9_fault_20 : decode b9_fault 20 = .ok (.istore_n 2, 1) := by decide +kernel
theorem d9_fault_21 : decode b9_fault 21 = .ok (.aload_n 0, 1) := by decide +kernel
theorem d9_fault_22 : decode b9_fault 22 = .ok (.getfield 128, 3) := by decide +kernel
theorem d9_fault_25 : decode b9_fault 25 = .ok (.istore_n 3, 1) := by decide +kernel
theorem d9_fault_26 : decode b9_fault 26 = .ok (.aload_n 0, 1) := by decide +kernel
theorem d9_fault_27 : decode b9_fault 27 = .ok (.getfield 104, 3) := by decide +kernel
theorem d9_fault_30 : decode b9_fault 30 = .ok (.iconst 1, 1) := by decide +kernel
theorem d9_fault_31 : decode b9_fault 31 = .ok (.if_icmp .eq 9, 3) := by decide +kernel
theorem d9_fault_34 : decode b9_fault 34 = .ok (.aload_n 0, 1) := by decide +kernel
theorem d9_fault_35 : decode b9_fault 35 = .ok (.iload_n 1, 1) := by decide +kernel
theorem d9_fault_36 : decode b9_fault 36 = .ok (.invokevirtual 184, 3) := by decide +kernel
theorem d9_fault_39 : decode b9_fault 39 = .ok (.ireturn, 1) := by decide +kernel
theorem d9_fault_40 : decode b9_fault 40 = .ok (.iconst 0, 1) := by decide +kernel
theorem d9_fault_41 : decode b9_fault 41 = .ok (.istore 4, 2) := by decide +kernel
theorem d9_fault_43 : decode b9_fault 43 = .ok (.iload 4, 2) := by decide +kernel
theorem d9_fault_45 : decode b9_fault 45 = .ok (.bipush 60, 2) := by decide +kernel
theorem d9_fault_47 : decode b9_fault 47 = .ok (.if_icmp .ge 57, 3) := by decide +kernel
theorem d9_fault_50 : decode b9_fault 50 = .ok (.aload_n 0, 1) := by decide +kernel
theorem d9_fault_51 : decode b9_fault 51 = .ok (.getfield 85, 3) := by decide +kernel
theorem d9_fault_54 : decode b9_fault 54 = .ok (.iload 4, 2) := by decide +kernel
theorem d9_fault_56 : decode b9_fault 56 = .ok (.aload_n 0, 1) := by decide +kernel
theorem d9_fault_57 : decode b9_fault 57 = .ok (.getfield 44, 3) := by decide +kernel
theorem d9_fault_60 : decode b9_fault 60 = .ok (.iload 4, 2) := by decide +kernel
theorem d9_fault_62 : decode b9_fault 62 = .ok (.iaload, 1) := by decide +kernel
theorem d9_fault_63 : decode b9_fault 63 = .ok (.iastore, 1) := by decide +kernel
theorem d9_fault_64 : decode b9_fault 64 = .ok (.aload_n 0, 1) := by decide +kernel
theorem d9_fault_65 : decode b9_fault 65 = .ok (.getfield 85, 3) := by decide +kernel
theorem d9_fault_68 : decode b9_fault 68 = .ok (.bipush 60, 2) := by decide +kernel
theorem d9_fault_70 : decode b9_fault 70 = .ok (.iload 4, 2) := by decide +kernel
theorem d9_fault_72 : decode b9_fault 72 = .ok (.iadd, 1) := by decide +kernel
theorem d9_fault_73 : decode b9_fault 73 = .ok (.aload_n 0, 1) := by decide +kernel
theorem d9_fault_74 : decode b9_fault 74 = .ok (.getfield 47, 3) := by decide +kernel
theorem d9_fault_77 : decode b9_fault 77 = .ok (.iload 4, 2) := by decide +kernel
theorem d9_fault_79 : decode b9_fault 79 = .ok (.iaload, 1) := by decide +kernel
theorem d9_fault_80 : decode b9_fault 80 = .ok (.iastore, 1) := by decide +kernel
theorem d9_fault_81 : decode b9_fault 81 = .ok (.aload_n 0, 1) := by decide +kernel
theorem d9_fault_82 : decode b9_fault 82 = .ok (.getfield 85, 3) := by decide +kernel
theorem d9_fault_85 : decode b9_fault 85 = .ok (.bipush 120, 2) := by decide +kernel
theorem d9_fault_87 : decode b9_fault 87 = .ok (.iload 4, 2) := by decide +kernel
theorem d9_fault_89 : decode b9_fault 89 = .ok (.iadd, 1) := by decide +kernel
theorem d9_fault_90 : decode b9_fault 90 = .ok (.aload_n 0, 1) := by decide +kernel
theorem d9_fault_91 : decode b9_fault 91 = .ok (.getfield 50, 3) := by decide +kernel
theorem d9_fault_94 : decode b9_fault 94 = .ok (.iload 4, 2) := by decide +kernel
theorem d9_fault_96 : decode b9_fault 96 = .ok (.iaload, 1) := by decide +kernel
theorem d9_fault_97 : decode b9_fault 97 = .ok (.iastore, 1) := by decide +kernel
theorem d9_fault_98 : decode b9_fault 98 = .ok (.iinc 4 1, 3) := by decide +kernel
theorem d9_fault_101 : decode b9_fault 101 = .ok (.goto (-58), 3) := by decide +kernel
theorem d9_fault_104 : decode b9_fault 104 = .ok (.aload_n 0, 1) := by decide +kernel
theorem d9_fault_105 : decode b9_fault 105 = .ok (.iload_n 1, 1) := by decide +kernel
theorem d9_fault_106 : decode b9_fault 106 = .ok (.invokevirtual 184, 3) := by decide +kernel
theorem d9_fault_109 : decode b9_fault 109 = .ok (.istore 4, 2) := by decide +kernel
theorem d9_fault_111 : decode b9_fault 111 = .ok (.iconst 0, 1) := by decide +kernel
theorem d9_fault_112 : decode b9_fault 112 = .ok (.istore 5, 2) := by decide +kernel
theorem d9_fault_114 : decode b9_fault 114 = .ok (.iload 5, 2) := by decide +kernel
theorem d9_fault_116 : decode b9_fault 116 = .ok (.bipush 60, 2) := by decide +kernel
theorem d9_fault_118 : decode b9_fault 118 = .ok (.if_icmp .ge 57, 3) := by decide +kernel
theorem d9_fault_121 : decode b9_fault 121 = .ok (.aload_n 0, 1) := by decide +kernel
theorem d9_fault_122 : decode b9_fault 122 = .ok (.getfield 44, 3) := by decide +kernel
theorem d9_fault_125 : decode b9_fault 125 = .ok (.iload 5, 2) := by decide +kernel
theorem d9_fault_127 : decode b9_fault 127 = .ok (.aload_n 0, 1) := by decide +kernel
theorem d9_fault_128 : decode b9_fault 128 = .ok (.getfield 85, 3) := by decide +kernel
theorem d9_fault_131 : decode b9_fault 131 = .ok (.iload 5, 2) := by decide +kernel
theorem d9_fault_133 : decode b9_fault 133 = .ok (.iaload, 1) := by decide +kernel
theorem d9_fault_134 : decode b9_fault 134 = .ok (.iastore, 1) := by decide +kernel
theorem d9_fault_135 : decode b9_fault 135 = .ok (.aload_n 0, 1) := by decide +kernel
theorem d9_fault_136 : decode b9_fault 136 = .ok (.getfield 47, 3) := by decide +kernel
theorem d9_fault_139 : decode b9_fault 139 = .ok (.iload 5, 2) := by decide +kernel
theorem d9_fault_141 : decode b9_fault 141 = .ok (.aload_n 0, 1) := by decide +kernel
theorem d9_fault_142 : decode b9_fault 142 = .ok (.getfield 85, 3) := by decide +kernel
theorem d9_fault_145 : decode b9_fault 145 = .ok (.bipush 60, 2) := by decide +kernel
theorem d9_fault_147 : decode b9_fault 147 = .ok (.iload 5, 2) := by decide +kernel
theorem d9_fault_149 : decode b9_fault 149 = .ok (.iadd, 1) := by decide +kernel
theorem d9_fault_150 : decode b9_fault 150 = .ok (.iaload, 1) := by decide +kernel
theorem d9_fault_151 : decode b9_fault 151 = .ok (.iastore, 1) := by decide +kernel
theorem d9_fault_152 : decode b9_fault 152 = .ok (.aload_n 0, 1) := by decide +kernel
theorem d9_fault_153 : decode b9_fault 153 = .ok (.getfield 50, 3) := by decide +kernel
theorem d9_fault_156 : decode b9_fault 156 = .ok (.iload 5, 2) := by decide +kernel
theorem d9_fault_158 : decode b9_fault 158 = .ok (.aload_n 0, 1) := by decide +kernel
theorem d9_fault_159 : decode b9_fault 159 = .ok (.getfield 85, 3) := by decide +kernel
theorem d9_fault_162 : decode b9_fault 162 = .ok (.bipush 120, 2) := by decide +kernel
theorem d9_fault_164 : decode b9_fault 164 = .ok (.iload 5, 2) := by decide +kernel
theorem d9_fault_166 : decode b9_fault 166 = .ok (.iadd, 1) := by decide +kernel
theorem d9_fault_167 : decode b9_fault 167 = .ok (.iaload, 1) := by decide +kernel
theorem d9_fault_168 : decode b9_fault 168 = .ok (.iastore, 1) := by decide +kernel
theorem d9_fault_169 : decode b9_fault 169 = .ok (.iinc 5 1, 3) := by decide +kernel
theorem d9_fault_172 : decode b9_fault 172 = .ok (.goto (-58), 3) := by decide +kernel
theorem d9_fault_175 : decode b9_fault 175 = .ok (.aload_n 0, 1) := by decide +kernel
theorem d9_fault_176 : decode b9_fault 176 = .ok (.iload_n 2, 1) := by decide +kernel
theorem d9_fault_177 : decode b9_fault 177 = .ok (.putfield 122, 3) := by decide +kernel
theorem d9_fault_180 : decode b9_fault 180 = .ok (.aload_n 0, 1) := by decide +kernel
theorem d9_fault_181 : decode b9_fault 181 = .ok (.iload_n 3, 1) := by decide +kernel
theorem d9_fault_182 : decode b9_fault 182 = .ok (.putfield 128, 3) := by decide +kernel
theorem d9_fault_185 : decode b9_fault 185 = .ok (.iload 4, 2) := by decide +kernel
theorem d9_fault_187 : decode b9_fault 187 = .ok (.ireturn, 1) := by decide +kernel
theorem d9_argue_0 : decode b9_argue 0 = .ok (.aload_n 0, 1) := by decide +kernel
theorem d9_argue_1 : decode b9_argue 1 = .ok (.aload_n 0, 1) := by decide +kernel
theorem d9_argue_2 : decode b9_argue 2 = .ok (.getfield 187, 3) := by decide +kernel
theorem d9_argue_5 : decode b9_argue 5 = .ok (.iconst 3, 1) := by decide +kernel
theorem d9_argue_6 : decode b9_argue 6 = .ok (.if_icmp .ge 7, 3) := by decide +kernel
theorem d9_argue_9 : decode b9_argue 9 = .ok (.iconst 1, 1) := by decide +kernel
theorem d9_argue_10 : decode b9_argue 10 = .ok (.goto 4, 3) := by decide +kernel
theorem d9_argue_13 : decode b9_argue 13 = .ok (.iconst 0, 1) := by decide +kernel
theorem d9_argue_14 : decode b9_argue 14 = .ok (.iconst 1, 1) := by decide +kernel
theorem d9_argue_15 : decode b9_argue 15 = .ok (.invokevirtual 100, 3) := by decide +kernel
theorem d9_argue_18 : decode b9_argue 18 = .ok (.ifCond .ne 5, 3) := by decide +kernel
theorem d9_argue_21 : decode b9_argue 21 = .ok (.iconst 0, 1) := by decide +kernel
theorem d9_argue_22 : decode b9_argue 22 = .ok (.ireturn, 1) := by decide +kernel
theorem d9_argue_23 : decode b9_argue 23 = .ok (.aload_n 0, 1) := by decide +kernel
theorem d9_argue_24 : decode b9_argue 24 = .ok (.getfield 38, 3) := by decide +kernel
theorem d9_argue_27 : decode b9_argue 27 = .ok (.aload_n 0, 1) := by decide +kernel
theorem d9_argue_28 : decode b9_argue 28 = .ok (.getfield 187, 3) := by decide +kernel
theorem d9_argue_31 : decode b9_argue 31 = .ok (.iload_n 1, 1) := by decide +kernel
theorem d9_argue_32 : decode b9_argue 32 = .ok (.iastore, 1) := by decide +kernel
theorem d9_argue_33 : decode b9_argue 33 = .ok (.aload_n 0, 1) := by decide +kernel
theorem d9_argue_34 : decode b9_argue 34 = .ok (.dup, 1) := by decide +kernel
theorem d9_argue_35 : decode b9_argue 35 = .ok (.getfield 187, 3) := by decide +kernel
theorem d9_argue_38 : decode b9_argue 38 = .ok (.iconst 1, 1) := by decide +kernel
theorem d9_argue_39 : decode b9_argue 39 = .ok (.iadd, 1) := by decide +kernel
theorem d9_argue_40 : decode b9_argue 40 = .ok (.putfield 187, 3) := by decide +kernel
theorem d9_argue_43 : decode b9_argue 43 = .ok (.aload_n 0, 1) := by decide +kernel
theorem d9_argue_44 : decode b9_argue 44 = .ok (.getfield 187, 3) := by decide +kernel
theorem d9_argue_47 : decode b9_argue 47 = .ok (.ireturn, 1) := by decide +kernel
theorem d9_enter_0 : decode b9_enter 0 = .ok (.aload_n 0, 1) := by decide +kernel
theorem d9_enter_1 : decode b9_enter 1 = .ok (.getfield 76, 3) := by decide +kernel
theorem d9_enter_4 : decode b9_enter 4 = .ok (.aload_n 0, 1) := by decide +kernel
theorem d9_enter_5 : decode b9_enter 5 = .ok (.getfield 190, 3) := by decide +kernel
theorem d9_enter_8 : decode b9_enter 8 = .ok (.iload_n 1, 1) := by decide +kernel
theorem d9_enter_9 : decode b9_enter 9 = .ok (.iastore, 1) := by decide +kernel
theorem d9_enter_10 : decode b9_enter 10 = .ok (.aload_n 0, 1) := by decide +kernel
theorem d9_enter_11 : decode b9_enter 11 = .ok (.getfield 79, 3) := by decide +kernel
theorem d9_enter_14 : decode b9_enter 14 = .ok (.aload_n 0, 1) := by decide +kernel
theorem d9_enter_15 : decode b9_enter 15 = .ok (.getfield 190, 3) := by decide +kernel
theorem d9_enter_18 : decode b9_enter 18 = .ok (.iload_n 2, 1) := by decide +kernel
theorem d9_enter_19 : decode b9_enter 19 = .ok (.iastore, 1) := by decide +kernel
theorem d9_enter_20 : decode b9_enter 20 = .ok (.aload_n 0, 1) := by decide +kernel
theorem d9_enter_21 : decode b9_enter 21 = .ok (.getfield 82, 3) := by decide +kernel
theorem d9_enter_24 : decode b9_enter 24 = .ok (.aload_n 0, 1) := by decide +kernel
theorem d9_enter_25 : decode b9_enter 25 = .ok (.getfield 190, 3) := by decide +kernel
theorem d9_enter_28 : decode b9_enter 28 = .ok (.aload_n 0, 1) := by decide +kernel
theorem d9_enter_29 : decode b9_enter 29 = .ok (.getfield 128, 3) := by decide +kernel
theorem d9_enter_32 : decode b9_enter 32 = .ok (.iastore, 1) := by decide +kernel
theorem d9_enter_33 : decode b9_enter 33 = .ok (.aload_n 0, 1) := by decide +kernel
theorem d9_enter_34 : decode b9_enter 34 = .ok (.dup, 1) := by decide +kernel
theorem d9_enter_35 : decode b9_enter 35 = .ok (.getfield 190, 3) := by decide +kernel
theorem d9_enter_38 : decode b9_enter 38 = .ok (.iconst 1, 1) := by decide +kernel
theorem d9_enter_39 : decode b9_enter 39 = .ok (.iadd, 1) := by decide +kernel
theorem d9_enter_40 : decode b9_enter 40 = .ok (.putfield 190, 3) := by decide +kernel
theorem d9_enter_43 : decode b9_enter 43 = .ok (.aload_n 0, 1) := by decide +kernel
theorem d9_enter_44 : decode b9_enter 44 = .ok (.getfield 44, 3) := by decide +kernel
theorem d9_enter_47 : decode b9_enter 47 = .ok (.aload_n 0, 1) := by decide +kernel
theorem d9_enter_48 : decode b9_enter 48 = .ok (.getfield 128, 3) := by decide +kernel
theorem d9_enter_51 : decode b9_enter 51 = .ok (.iconst 0, 1) := by decide +kernel
theorem d9_enter_52 : decode b9_enter 52 = .ok (.iastore, 1) := by decide +kernel
theorem d9_enter_53 : decode b9_enter 53 = .ok (.aload_n 0, 1) := by decide +kernel
theorem d9_enter_54 : decode b9_enter 54 = .ok (.getfield 47, 3) := by decide +kernel
theorem d9_enter_57 : decode b9_enter 57 = .ok (.aload_n 0, 1) := by decide +kernel
theorem d9_enter_58 : decode b9_enter 58 = .ok (.getfield 128, 3) := by decide +kernel
theorem d9_enter_61 : decode b9_enter 61 = .ok (.aload_n 0, 1) := by decide +kernel
theorem d9_enter_62 : decode b9_enter 62 = .ok (.getfield 19, 3) := by decide +kernel
theorem d9_enter_65 : decode b9_enter 65 = .ok (.iload_n 1, 1) := by decide +kernel
theorem d9_enter_66 : decode b9_enter 66 = .ok (.iaload, 1) := by decide +kernel
theorem d9_enter_67 : decode b9_enter 67 = .ok (.iastore, 1) := by decide +kernel
theorem d9_enter_68 : decode b9_enter 68 = .ok (.aload_n 0, 1) := by decide +kernel
theorem d9_enter_69 : decode b9_enter 69 = .ok (.getfield 50, 3) := by decide +kernel
theorem d9_enter_72 : decode b9_enter 72 = .ok (.aload_n 0, 1) := by decide +kernel
theorem d9_enter_73 : decode b9_enter 73 = .ok (.getfield 128, 3) := by decide +kernel
theorem d9_enter_76 : decode b9_enter 76 = .ok (.aload_n 0, 1) := by decide +kernel
theorem d9_enter_77 : decode b9_enter 77 = .ok (.getfield 122, 3) := by decide +kernel
theorem d9_enter_80 : decode b9_enter 80 = .ok (.iastore, 1) := by decide +kernel
theorem d9_enter_81 : decode b9_enter 81 = .ok (.aload_n 0, 1) := by decide +kernel
theorem d9_enter_82 : decode b9_enter 82 = .ok (.dup, 1) := by decide +kernel
theorem d9_enter_83 : decode b9_enter 83 = .ok (.getfield 128, 3) := by decide +kernel
theorem d9_enter_86 : decode b9_enter 86 = .ok (.iconst 1, 1) := by decide +kernel
theorem d9_enter_87 : decode b9_enter 87 = .ok (.iadd, 1) := by decide +kernel
theorem d9_enter_88 : decode b9_enter 88 = .ok (.putfield 128, 3) := by decide +kernel
theorem d9_enter_91 : decode b9_enter 91 = .ok (.aload_n 0, 1) := by decide +kernel
theorem d9_enter_92 : decode b9_enter 92 = .ok (.iconst 0, 1) := by decide +kernel
theorem d9_enter_93 : decode b9_enter 93 = .ok (.putfield 193, 3) := by decide +kernel
theorem d9_enter_96 : decode b9_enter 96 = .ok (.return_, 1) := by decide +kernel
theorem d9_start_0 : decode b9_start 0 = .ok (.aload_n 0, 1) := by decide +kernel
theorem d9_start_1 : decode b9_start 1 = .ok (.iload_n 1, 1) := by decide +kernel
theorem d9_start_2 : decode b9_start 2 = .ok (.iconst 0, 1) := by decide +kernel
theorem d9_start_3 : decode b9_start 3 = .ok (.iconst 5, 1) := by decide +kernel
theorem d9_start_4 : decode b9_start 4 = .ok (.invokestatic 92, 3) := by decide +kernel
theorem d9_start_7 : decode b9_start 7 = .ok (.iconst 1, 1) := by decide +kernel
theorem d9_start_8 : decode b9_start 8 = .ok (.invokevirtual 100, 3) := by decide +kernel
theorem d9_start_11 : decode b9_start 11 = .ok (.ifCond .ne 5, 3) := by decide +kernel
theorem d9_start_14 : decode b9_start 14 = .ok (.iconst 0, 1) := by decide +kernel
theorem d9_start_15 : decode b9_start 15 = .ok (.ireturn, 1) := by decide +kernel
theorem d9_start_16 : decode b9_start 16 = .ok (.aload_n 0, 1) := by decide +kernel
theorem d9_start_17 : decode b9_start 17 = .ok (.aload_n 0, 1) := by decide +kernel
theorem d9_start_18 : decode b9_start 18 = .ok (.getfield 104, 3) := by decide +kernel
theorem d9_start_21 : decode b9_start 21 = .ok (.iconst 1, 1) := by decide +kernel
theorem d9_start_22 : decode b9_start 22 = .ok (.if_icmp .eq 23, 3) := by decide +kernel
theorem d9_start_25 : decode b9_start 25 = .ok (.aload_n 0, 1) := by decide +kernel
theorem d9_start_26 : decode b9_start 26 = .ok (.getfield 111, 3) := by decide +kernel
theorem d9_start_29 : decode b9_start 29 = .ok (.ifCond .eq 16, 3) := by decide +kernel
theorem d9_start_32 : decode b9_start 32 = .ok (.aload_n 0, 1) := by decide +kernel
theorem d9_start_33 : decode b9_start 33 = .ok (.getfield 25, 3) := by decide +kernel
theorem d9_start_36 : decode b9_start 36 = .ok (.iload_n 1, 1) := by decide +kernel
theorem d9_start_37 : decode b9_start 37 = .ok (.iaload, 1) := by decide +kernel
theorem d9_start_38 : decode b9_start 38 = .ok (.ifCond .le 7, 3) := by decide +kernel
theorem d9_start_41 : decode b9_start 41 = .ok (.iconst 1, 1) := by decide +kernel
theorem d9_start_42 : decode b9_start 42 = .ok (.goto 4, 3) := by decide +kernel
theorem d9_start_45 : decode b9_start 45 = .ok (.iconst 0, 1) := by decide +kernel
theorem d9_start_46 : decode b9_start 46 = .ok (.iconst 2, 1) := by decide +kernel
theorem d9_start_47 : decode b9_start 47 = .ok (.invokevirtual 100, 3) := by decide +kernel
theorem d9_start_50 : decode b9_start 50 = .ok (.ifCond .ne 5, 3) := by decide +kernel
theorem d9_start_53 : decode b9_start 53 = .ok (.iconst 0, 1) := by decide +kernel
theorem d9_start_54 : decode b9_start 54 = .ok (.ireturn, 1) := by decide +kernel
theorem d9_start_55 : decode b9_start 55 = .ok (.aload_n 0, 1) := by decide +kernel
theorem d9_start_56 : decode b9_start 56 = .ok (.aload_n 0, 1) := by decide +kernel
theorem d9_start_57 : decode b9_start 57 = .ok (.getfield 187, 3) := by decide +kernel
theorem d9_start_60 : decode b9_start 60 = .ok (.aload_n 0, 1) := by decide +kernel
theorem d9_start_61 : decode b9_start 61 = .ok (.getfield 13, 3) := by decide +kernel
theorem d9_start_64 : decode b9_start 64 = .ok (.iload_n 1, 1) := by decide +kernel
theorem d9_start_65 : decode b9_start 65 = .ok (.iaload, 1) := by decide +kernel
theorem d9_start_66 : decode b9_start 66 = .ok (.if_icmp .ne 7, 3) := by decide +kernel
theorem d9_start_69 : decode b9_start 69 = .ok (.iconst 1, 1) := by decide +kernel
theorem d9_start_70 : decode b9_start 70 = .ok (.goto 4, 3) := by decide +kernel
theorem d9_start_73 : decode b9_start 73 = .ok (.iconst 0, 1) := by decide +kernel
theorem d9_start_74 : decode b9_start 74 = .ok (.iconst 3, 1) := by decide +kernel
theorem d9_start_75 : decode b9_start 75 = .ok (.invokevirtual 100, 3) := by decide +kernel
theorem d9_start_78 : decode b9_start 78 = .ok (.ifCond .ne 5, 3) := by decide +kernel
theorem d9_start_81 : decode b9_start 81 = .ok (.iconst 0, 1) := by decide +kernel
theorem d9_start_82 : decode b9_start 82 = .ok (.ireturn, 1) := by decide +kernel
theorem d9_start_83 : decode b9_start 83 = .ok (.aload_n 0, 1) := by decide +kernel
theorem d9_start_84 : decode b9_start 84 = .ok (.iconst 1, 1) := by decide +kernel
theorem d9_start_85 : decode b9_start 85 = .ok (.putfield 104, 3) := by decide +kernel
theorem d9_start_88 : decode b9_start 88 = .ok (.aload_n 0, 1) := by decide +kernel
theorem d9_start_89 : decode b9_start 89 = .ok (.iconst 0, 1) := by decide +kernel
theorem d9_start_90 : decode b9_start 90 = .ok (.putfield 196, 3) := by decide +kernel
theorem d9_start_93 : decode b9_start 93 = .ok (.aload_n 0, 1) := by decide +kernel
theorem d9_start_94 : decode b9_start 94 = .ok (.iconst 0, 1) := by decide +kernel
theorem d9_start_95 : decode b9_start 95 = .ok (.putfield 190, 3) := by decide +kernel
theorem d9_start_98 : decode b9_start 98 = .ok (.aload_n 0, 1) := by decide +kernel
theorem d9_start_99 : decode b9_start 99 = .ok (.iconst 0, 1) := by decide +kernel
theorem d9_start_100 : decode b9_start 100 = .ok (.putfield 128, 3) := by decide +kernel
theorem d9_start_103 : decode b9_start 103 = .ok (.aload_n 0, 1) := by decide +kernel
theorem d9_start_104 : decode b9_start 104 = .ok (.iconst 0, 1) := by decide +kernel
theorem d9_start_105 : decode b9_start 105 = .ok (.putfield 122, 3) := by decide +kernel
theorem d9_start_108 : decode b9_start 108 = .ok (.iconst 0, 1) := by decide +kernel
theorem d9_start_109 : decode b9_start 109 = .ok (.istore_n 2, 1) := by decide +kernel
theorem d9_start_110 : decode b9_start 110 = .ok (.iload_n 2, 1) := by decide +kernel
theorem d9_start_111 : decode b9_start 111 = .ok (.bipush 6, 2) := by decide +kernel
theorem d9_start_113 : decode b9_start 113 = .ok (.if_icmp .ge 63, 3) := by decide +kernel
theorem d9_start_116 : decode b9_start 116 = .ok (.aload_n 0, 1) := by decide +kernel
theorem d9_start_117 : decode b9_start 117 = .ok (.getfield 70, 3) := by decide +kernel
theorem d9_start_120 : decode b9_start 120 = .ok (.iload_n 2, 1) := by decide +kernel
theorem d9_start_121 : decode b9_start 121 = .ok (.iload_n 2, 1) := by decide +kernel
theorem d9_start_122 : decode b9_start 122 = .ok (.aload_n 0, 1) := by decide +kernel
theorem d9_start_123 : decode b9_start 123 = .ok (.getfield 187, 3) := by decide +kernel
theorem d9_start_126 : decode b9_start 126 = .ok (.if_icmp .ge 13, 3) := by decide +kernel
theorem d9_start_129 : decode b9_start 129 = .ok (.aload_n 0, 1) := by decide +kernel
theorem d9_start_130 : decode b9_start 130 = .ok (.getfield 38, 3) := by decide +kernel
theorem d9_start_133 : decode b9_start 133 = .ok (.iload_n 2, 1) := by decide +kernel
theorem d9_start_134 : decode b9_start 134 = .ok (.iaload, 1) := by decide +kernel
theorem d9_start_135 : decode b9_start 135 = .ok (.i2l, 1) := by decide +kernel
theorem d9_start_136 : decode b9_start 136 = .ok (.goto 4, 3) := by decide +kernel
theorem d9_start_139 : decode b9_start 139 = .ok (.lconst 0, 1) := by decide +kernel
theorem d9_start_140 : decode b9_start 140 = .ok (.lastore, 1) := by decide +kernel
theorem d9_start_141 : decode b9_start 141 = .ok (.aload_n 0, 1) := by decide +kernel
theorem d9_start_142 : decode b9_start 142 = .ok (.getfield 73, 3) := by decide +kernel
theorem d9_start_145 : decode b9_start 145 = .ok (.iload_n 2, 1) := by decide +kernel
theorem d9_start_146 : decode b9_start 146 = .ok (.iload_n 2, 1) := by decide +kernel
theorem d9_start_147 : decode b9_start 147 = .ok (.aload_n 0, 1) := by decide +kernel
theorem d9_start_148 : decode b9_start 148 = .ok (.getfield 187, 3) := by decide +kernel
theorem d9_start_151 : decode b9_start 151 = .ok (.if_icmp .ge 17, 3) := by decide +kernel
theorem d9_start_154 : decode b9_start 154 = .ok (.aload_n 0, 1) := by decide +kernel
theorem d9_start_155 : decode b9_start 155 = .ok (.getfield 38, 3) := by decide +kernel
theorem d9_start_158 : decode b9_start 158 = .ok (.iload_n 2, 1) := by decide +kernel
theorem d9_start_159 : decode b9_start 159 = .ok (.iaload, 1) := by decide +kernel
theorem d9_start_160 : decode b9_start 160 = .ok (.i2d, 1) := by decide +kernel
theorem d9_start_161 : decode b9_start 161 = .ok (.ldc2_w 199, 3) := by decide +kernel
theorem d9_start_164 : decode b9_start 164 = .ok (.dmul, 1) := by decide +kernel
theorem d9_start_165 : decode b9_start 165 = .ok (.goto 4, 3) := by decide +kernel
theorem d9_start_168 : decode b9_start 168 = .ok (.dconst 0, 1) := by decide +kernel
theorem d9_start_169 : decode b9_start 169 = .ok (.dastore, 1) := by decide +kernel
theorem d9_start_170 : decode b9_start 170 = .ok (.iinc 2 1, 3) := by decide +kernel
theorem d9_start_173 : decode b9_start 173 = .ok (.goto (-63), 3) := by decide +kernel
theorem d9_start_176 : decode b9_start 176 = .ok (.aload_n 0, 1) := by decide +kernel
theorem d9_start_177 : decode b9_start 177 = .ok (.iload_n 1, 1) := by decide +kernel
theorem d9_start_178 : decode b9_start 178 = .ok (.iconst 0, 1) := by decide +kernel
theorem d9_start_179 : decode b9_start 179 = .ok (.invokevirtual 201, 3) := by decide +kernel
theorem d9_start_182 : decode b9_start 182 = .ok (.aload_n 0, 1) := by decide +kernel
theorem d9_start_183 : decode b9_start 183 = .ok (.getfield 187, 3) := by decide +kernel
theorem d9_start_186 : decode b9_start 186 = .ok (.istore_n 2, 1) := by decide +kernel
theorem d9_start_187 : decode b9_start 187 = .ok (.aload_n 0, 1) := by decide +kernel
theorem d9_start_188 : decode b9_start 188 = .ok (.iconst 0, 1) := by decide +kernel
theorem d9_start_189 : decode b9_start 189 = .ok (.putfield 187, 3) := by decide +kernel
theorem d9_start_192 : decode b9_start 192 = .ok (.iload_n 2, 1) := by decide +kernel
theorem d9_start_193 : decode b9_start 193 = .ok (.ireturn, 1) := by decide +kernel
theorem d9_push_0 : decode b9_push 0 = .ok (.aload_n 0, 1) := by decide +kernel
theorem d9_push_1 : decode b9_push 1 = .ok (.getfield 60, 3) := by decide +kernel
theorem d9_push_4 : decode b9_push 4 = .ok (.aload_n 0, 1) := by decide +kernel
theorem d9_push_5 : decode b9_push 5 = .ok (.getfield 122, 3) := by decide +kernel
theorem d9_push_8 : decode b9_push 8 = .ok (.lload_n 1, 1) := by decide +kernel
theorem d9_push_9 : decode b9_push 9 = .ok (.lastore, 1) := by decide +kernel
theorem d9_push_10 : decode b9_push 10 = .ok (.aload_n 0, 1) := by decide +kernel
theorem d9_push_11 : decode b9_push 11 = .ok (.getfield 63, 3) := by decide +kernel
theorem d9_push_14 : decode b9_push 14 = .ok (.aload_n 0, 1) := by decide +kernel
theorem d9_push_15 : decode b9_push 15 = .ok (.getfield 122, 3) := by decide +kernel
theorem d9_push_18 : decode b9_push 18 = .ok (.dload_n 3, 1) := by decide +kernel
theorem d9_push_19 : decode b9_push 19 = .ok (.dastore, 1) := by decide +kernel
theorem d9_push_20 : decode b9_push 20 = .ok (.aload_n 0, 1) := by decide +kernel
theorem d9_push_21 : decode b9_push 21 = .ok (.dup, 1) := by decide +kernel
theorem d9_push_22 : decode b9_push 22 = .ok (.getfield 122, 3) := by decide +kernel
theorem d9_push_25 : decode b9_push 25 = .ok (.iconst 1, 1) := by decide +kernel
theorem d9_push_26 : decode b9_push 26 = .ok (.iadd, 1) := by decide +kernel
theorem d9_push_27 : decode b9_push 27 = .ok (.putfield 122, 3) := by decide +kernel
theorem d9_push_30 : decode b9_push 30 = .ok (.return_, 1) := by decide +kernel
theorem d9_popInt_0 : decode b9_popInt 0 = .ok (.aload_n 0, 1) := by decide +kernel
theorem d9_popInt_1 : decode b9_popInt 1 = .ok (.dup, 1) := by decide +kernel
theorem d9_popInt_2 : decode b9_popInt 2 = .ok (.getfield 122, 3) := by decide +kernel
theorem d9_popInt_5 : decode b9_popInt 5 = .ok (.iconst 1, 1) := by decide +kernel
theorem d9_popInt_6 : decode b9_popInt 6 = .ok (.isub, 1) := by decide +kernel
theorem d9_popInt_7 : decode b9_popInt 7 = .ok (.putfield 122, 3) := by decide +kernel
theorem d9_popInt_10 : decode b9_popInt 10 = .ok (.aload_n 0, 1) := by decide +kernel
theorem d9_popInt_11 : decode b9_popInt 11 = .ok (.getfield 60, 3) := by decide +kernel
theorem d9_popInt_14 : decode b9_popInt 14 = .ok (.aload_n 0, 1) := by decide +kernel
theorem d9_popInt_15 : decode b9_popInt 15 = .ok (.getfield 122, 3) := by decide +kernel
theorem d9_popInt_18 : decode b9_popInt 18 = .ok (.laload, 1) := by decide +kernel
theorem d9_popInt_19 : decode b9_popInt 19 = .ok (.l2i, 1) := by decide +kernel
theorem d9_popInt_20 : decode b9_popInt 20 = .ok (.ireturn, 1) := by decide +kernel
theorem d9_leave_0 : decode b9_leave 0 = .ok (.aload_n 0, 1) := by decide +kernel
theorem d9_leave_1 : decode b9_leave 1 = .ok (.getfield 76, 3) := by decide +kernel
theorem d9_leave_4 : decode b9_leave 4 = .ok (.aload_n 0, 1) := by decide +kernel
theorem d9_leave_5 : decode b9_leave 5 = .ok (.getfield 190, 3) := by decide +kernel
theorem d9_leave_8 : decode b9_leave 8 = .ok (.iconst 1, 1) := by decide +kernel
theorem d9_leave_9 : decode b9_leave 9 = .ok (.isub, 1) := by decide +kernel
theorem d9_leave_10 : decode b9_leave 10 = .ok (.iaload, 1) := by decide +kernel
theorem d9_leave_11 : decode b9_leave 11 = .ok (.istore_n 1, 1) := by decide +kernel
theorem d9_leave_12 : decode b9_leave 12 = .ok (.aload_n 0, 1) := by decide +kernel
theorem d9_leave_13 : decode b9_leave 13 = .ok (.getfield 19, 3) := by decide +kernel
theorem d9_leave_16 : decode b9_leave 16 = .ok (.iload_n 1, 1) := by decide +kernel
theorem d9_leave_17 : decode b9_leave 17 = .ok (.iaload, 1) := by decide +kernel
theorem d9_leave_18 : decode b9_leave 18 = .ok (.ifCond .eq 7, 3) := by decide +kernel
theorem d9_leave_21 : decode b9_leave 21 = .ok (.iconst 1, 1) := by decide +kernel
theorem d9_leave_22 : decode b9_leave 22 = .ok (.goto 4, 3) := by decide +kernel
theorem d9_leave_25 : decode b9_leave 25 = .ok (.iconst 0, 1) := by decide +kernel
theorem d9_leave_26 : decode b9_leave 26 = .ok (.istore_n 2, 1) := by decide +kernel
theorem d9_leave_27 : decode b9_leave 27 = .ok (.iload_n 2, 1) := by decide +kernel
theorem d9_leave_28 : decode b9_leave 28 = .ok (.ifCond .eq 17, 3) := by decide +kernel
theorem d9_leave_31 : decode b9_leave 31 = .ok (.aload_n 0, 1) := by decide +kernel
theorem d9_leave_32 : decode b9_leave 32 = .ok (.getfield 60, 3) := by decide +kernel
theorem d9_leave_35 : decode b9_leave 35 = .ok (.aload_n 0, 1) := by decide +kernel
theorem d9_leave_36 : decode b9_leave 36 = .ok (.getfield 122, 3) := by decide +kernel
theorem d9_leave_39 : decode b9_leave 39 = .ok (.iconst 1, 1) := by decide +kernel
theorem d9_leave_40 : decode b9_leave 40 = .ok (.isub, 1) := by decide +kernel
theorem d9_leave_41 : decode b9_leave 41 = .ok (.laload, 1) := by decide +kernel
theorem d9_leave_42 : decode b9_leave 42 = .ok (.goto 4, 3) := by decide +kernel
theorem d9_leave_45 : decode b9_leave 45 = .ok (.lconst 0, 1) := by decide +kernel
theorem d9_leave_46 : decode b9_leave 46 = .ok (.lstore_n 3, 1) := by decide +kernel
theorem d9_leave_47 : decode b9_leave 47 = .ok (.iload_n 2, 1) := by decide +kernel
theorem d9_leave_48 : decode b9_leave 48 = .ok (.ifCond .eq 17, 3) := by decide +kernel
theorem d9_leave_51 : decode b9_leave 51 = .ok (.aload_n 0, 1) := by decide +kernel
theorem d9_leave_52 : decode b9_leave 52 = .ok (.getfield 63, 3) := by decide +kernel
theorem d9_leave_55 : decode b9_leave 55 = .ok (.aload_n 0, 1) := by decide +kernel
theorem d9_leave_56 : decode b9_leave 56 = .ok (.getfield 122, 3) := by decide +kernel
theorem d9_leave_59 : decode b9_leave 59 = .ok (.iconst 1, 1) := by decide +kernel
theorem d9_leave_60 : decode b9_leave 60 = .ok (.isub, 1) := by decide +kernel
theorem d9_leave_61 : decode b9_leave 61 = .ok (.daload, 1) := by decide +kernel
theorem d9_leave_62 : decode b9_leave 62 = .ok (.goto 4, 3) := by decide +kernel
theorem d9_leave_65 : decode b9_leave 65 = .ok (.dconst 0, 1) := by decide +kernel
theorem d9_leave_66 : decode b9_leave 66 = .ok (.dstore 5, 2) := by decide +kernel
theorem d9_leave_68 : decode b9_leave 68 = .ok (.aload_n 0, 1) := by decide +kernel
theorem d9_leave_69 : decode b9_leave 69 = .ok (.aload_n 0, 1) := by decide +kernel
theorem d9_leave_70 : decode b9_leave 70 = .ok (.getfield 50, 3) := by decide +kernel
theorem d9_leave_73 : decode b9_leave 73 = .ok (.aload_n 0, 1) := by decide +kernel
theorem d9_leave_74 : decode b9_leave 74 = .ok (.getfield 82, 3) := by decide +kernel
theorem d9_leave_77 : decode b9_leave 77 = .ok (.aload_n 0, 1) := by decide +kernel
theorem d9_leave_78 : decode b9_leave 78 = .ok (.getfield 190, 3) := by decide +kernel
theorem d9_leave_81 : decode b9_leave 81 = .ok (.iconst 1, 1) := by decide +kernel
theorem d9_leave_82 : decode b9_leave 82 = .ok (.isub, 1) := by decide +kernel
theorem d9_leave_83 : decode b9_leave 83 = .ok (.iaload, 1) := by decide +kernel
theorem d9_leave_84 : decode b9_leave 84 = .ok (.iaload, 1) := by decide +kernel
theorem d9_leave_85 : decode b9_leave 85 = .ok (.putfield 122, 3) := by decide +kernel
theorem d9_leave_88 : decode b9_leave 88 = .ok (.aload_n 0, 1) := by decide +kernel
theorem d9_leave_89 : decode b9_leave 89 = .ok (.aload_n 0, 1) := by decide +kernel
theorem d9_leave_90 : decode b9_leave 90 = .ok (.getfield 82, 3) := by decide +kernel
theorem d9_leave_93 : decode b9_leave 93 = .ok (.aload_n 0, 1) := by decide +kernel
theorem d9_leave_94 : decode b9_leave 94 = .ok (.getfield 190, 3) := by decide +kernel
theorem d9_leave_97 : decode b9_leave 97 = .ok (.iconst 1, 1) := by decide +kernel
theorem d9_leave_98 : decode b9_leave 98 = .ok (.isub, 1) := by decide +kernel
theorem d9_leave_99 : decode b9_leave 99 = .ok (.iaload, 1) := by decide +kernel
theorem d9_leave_100 : decode b9_leave 100 = .ok (.putfield 128, 3) := by decide +kernel
theorem d9_leave_103 : decode b9_leave 103 = .ok (.aload_n 0, 1) := by decide +kernel
theorem d9_leave_104 : decode b9_leave 104 = .ok (.aload_n 0, 1) := by decide +kernel
theorem d9_leave_105 : decode b9_leave 105 = .ok (.getfield 79, 3) := by decide +kernel
theorem d9_leave_108 : decode b9_leave 108 = .ok (.aload_n 0, 1) := by decide +kernel
theorem d9_leave_109 : decode b9_leave 109 = .ok (.getfield 190, 3) := by decide +kernel
theorem d9_leave_112 : decode b9_leave 112 = .ok (.iconst 1, 1) := by decide +kernel
theorem d9_leave_113 : decode b9_leave 113 = .ok (.isub, 1) := by decide +kernel
theorem d9_leave_114 : decode b9_leave 114 = .ok (.iaload, 1) := by decide +kernel
theorem d9_leave_115 : decode b9_leave 115 = .ok (.putfield 193, 3) := by decide +kernel
theorem d9_leave_118 : decode b9_leave 118 = .ok (.aload_n 0, 1) := by decide +kernel
theorem d9_leave_119 : decode b9_leave 119 = .ok (.dup, 1) := by decide +kernel
theorem d9_leave_120 : decode b9_leave 120 = .ok (.getfield 190, 3) := by decide +kernel
theorem d9_leave_123 : decode b9_leave 123 = .ok (.iconst 1, 1) := by decide +kernel
theorem d9_leave_124 : decode b9_leave 124 = .ok (.isub, 1) := by decide +kernel
theorem d9_leave_125 : decode b9_leave 125 = .ok (.putfield 190, 3) := by decide +kernel
theorem d9_leave_128 : decode b9_leave 128 = .ok (.aload_n 0, 1) := by decide +kernel
theorem d9_leave_129 : decode b9_leave 129 = .ok (.getfield 190, 3) := by decide +kernel
theorem d9_leave_132 : decode b9_leave 132 = .ok (.ifCond .ne 32, 3) := by decide +kernel
theorem d9_leave_135 : decode b9_leave 135 = .ok (.aload_n 0, 1) := by decide +kernel
theorem d9_leave_136 : decode b9_leave 136 = .ok (.iconst 2, 1) := by decide +kernel
theorem d9_leave_137 : decode b9_leave 137 = .ok (.putfield 104, 3) := by decide +kernel
theorem d9_leave_140 : decode b9_leave 140 = .ok (.aload_n 0, 1) := by decide +kernel
theorem d9_leave_141 : decode b9_leave 141 = .ok (.aload_n 0, 1) := by decide +kernel
theorem d9_leave_142 : decode b9_leave 142 = .ok (.getfield 19, 3) := by decide +kernel
theorem d9_leave_145 : decode b9_leave 145 = .ok (.iload_n 1, 1) := by decide +kernel
theorem d9_leave_146 : decode b9_leave 146 = .ok (.iaload, 1) := by decide +kernel
theorem d9_leave_147 : decode b9_leave 147 = .ok (.putfield 204, 3) := by decide +kernel
theorem d9_leave_150 : decode b9_leave 150 = .ok (.aload_n 0, 1) := by decide +kernel
theorem d9_leave_151 : decode b9_leave 151 = .ok (.lload_n 3, 1) := by decide +kernel
theorem d9_leave_152 : decode b9_leave 152 = .ok (.putfield 207, 3) := by decide +kernel
theorem d9_leave_155 : decode b9_leave 155 = .ok (.aload_n 0, 1) := by decide +kernel
theorem d9_leave_156 : decode b9_leave 156 = .ok (.dload 5, 2) := by decide +kernel
theorem d9_leave_158 : decode b9_leave 158 = .ok (.putfield 211, 3) := by decide +kernel
theorem d9_leave_161 : decode b9_leave 161 = .ok (.goto 14, 3) := by decide +kernel
theorem d9_leave_164 : decode b9_leave 164 = .ok (.iload_n 2, 1) := by decide +kernel
theorem d9_leave_165 : decode b9_leave 165 = .ok (.ifCond .eq 10, 3) := by decide +kernel
theorem d9_leave_168 : decode b9_leave 168 = .ok (.aload_n 0, 1) := by decide +kernel
theorem d9_leave_169 : decode b9_leave 169 = .ok (.lload_n 3, 1) := by decide +kernel
theorem d9_leave_170 : decode b9_leave 170 = .ok (.dload 5, 2) := by decide +kernel
theorem d9_leave_172 : decode b9_leave 172 = .ok (.invokevirtual 215, 3) := by decide +kernel
theorem d9_leave_175 : decode b9_leave 175 = .ok (.return_, 1) := by decide +kernel
end
section
theorem d9_jump_0 : decode b9_jump 0 = .ok (.aload_n 0, 1) := by decide +kernel
theorem d9_jump_1 : decode b9_jump 1 = .ok (.getfield 128, 3) := by decide +kernel
theorem d9_jump_4 : decode b9_jump 4 = .ok (.iconst 1, 1) := by decide +kernel
theorem d9_jump_5 : decode b9_jump 5 = .ok (.isub, 1) := by decide +kernel
theorem d9_jump_6 : decode b9_jump 6 = .ok (.iload_n 1, 1) := by decide +kernel
theorem d9_jump_7 : decode b9_jump 7 = .ok (.isub, 1) := by decide +kernel
theorem d9_jump_8 : decode b9_jump 8 = .ok (.istore_n 2, 1) := by decide +kernel
theorem d9_jump_9 : decode b9_jump 9 = .ok (.aload_n 0, 1) := by decide +kernel
theorem d9_jump_10 : decode b9_jump 10 = .ok (.getfield 76, 3) := by decide +kernel
theorem d9_jump_13 : decode b9_jump 13 = .ok (.aload_n 0, 1) := by decide +kernel
theorem d9_jump_14 : decode b9_jump 14 = .ok (.getfield 190, 3) := by decide +kernel
theorem d9_jump_17 : decode b9_jump 17 = .ok (.iconst 1, 1) := by decide +kernel
theorem d9_jump_18 : decode b9_jump 18 = .ok (.isub, 1) := by decide +kernel
theorem d9_jump_19 : decode b9_jump 19 = .ok (.iaload, 1) := by decide +kernel
theorem d9_jump_20 : decode b9_jump 20 = .ok (.istore_n 3, 1) := by decide +kernel
theorem d9_jump_21 : decode b9_jump 21 = .ok (.iload_n 2, 1) := by decide +kernel
theorem d9_jump_22 : decode b9_jump 22 = .ok (.aload_n 0, 1) := by decide +kernel
theorem d9_jump_23 : decode b9_jump 23 = .ok (.getfield 82, 3) := by decide +kernel
theorem d9_jump_26 : decode b9_jump 26 = .ok (.aload_n 0, 1) := by decide +kernel
theorem d9_jump_27 : decode b9_jump 27 = .ok (.getfield 190, 3) := by decide +kernel
theorem d9_jump_30 : decode b9_jump 30 = .ok (.iconst 1, 1) := by decide +kernel
theorem d9_jump_31 : decode b9_jump 31 = .ok (.isub, 1) := by decide +kernel
theorem d9_jump_32 : decode b9_jump 32 = .ok (.iaload, 1) := by decide +kernel
theorem d9_jump_33 : decode b9_jump 33 = .ok (.if_icmp .ne 8, 3) := by decide +kernel
theorem d9_jump_36 : decode b9_jump 36 = .ok (.aload_n 0, 1) := by decide +kernel
theorem d9_jump_37 : decode b9_jump 37 = .ok (.invokevirtual 219, 3) := by decide +kernel
theorem d9_jump_40 : decode b9_jump 40 = .ok (.return_, 1) := by decide +kernel
theorem d9_jump_41 : decode b9_jump 41 = .ok (.aload_n 0, 1) := by decide +kernel
theorem d9_jump_42 : decode b9_jump 42 = .ok (.getfield 44, 3) := by decide +kernel
theorem d9_jump_45 : decode b9_jump 45 = .ok (.iload_n 2, 1) := by decide +kernel
theorem d9_jump_46 : decode b9_jump 46 = .ok (.iaload, 1) := by decide +kernel
theorem d9_jump_47 : decode b9_jump 47 = .ok (.iconst 3, 1) := by decide +kernel
theorem d9_jump_48 : decode b9_jump 48 = .ok (.if_icmp .ne 7, 3) := by decide +kernel
theorem d9_jump_51 : decode b9_jump 51 = .ok (.iconst 1, 1) := by decide +kernel
theorem d9_jump_52 : decode b9_jump 52 = .ok (.goto 4, 3) := by decide +kernel
theorem d9_jump_55 : decode b9_jump 55 = .ok (.iconst 0, 1) := by decide +kernel
theorem d9_jump_56 : decode b9_jump 56 = .ok (.istore 4, 2) := by decide +kernel
theorem d9_jump_58 : decode b9_jump 58 = .ok (.iload 4, 2) := by decide +kernel
theorem d9_jump_60 : decode b9_jump 60 = .ok (.ifCond .ne 16, 3) := by decide +kernel
theorem d9_jump_63 : decode b9_jump 63 = .ok (.aload_n 0, 1) := by decide +kernel
theorem d9_jump_64 : decode b9_jump 64 = .ok (.getfield 47, 3) := by decide +kernel
theorem d9_jump_67 : decode b9_jump 67 = .ok (.iload_n 2, 1) := by decide +kernel
theorem d9_jump_68 : decode b9_jump 68 = .ok (.iaload, 1) := by decide +kernel
theorem d9_jump_69 : decode b9_jump 69 = .ok (.ifCond .eq 7, 3) := by decide +kernel
theorem d9_jump_72 : decode b9_jump 72 = .ok (.iconst 1, 1) := by decide +kernel
theorem d9_jump_73 : decode b9_jump 73 = .ok (.goto 4, 3) := by decide +kernel
theorem d9_jump_76 : decode b9_jump 76 = .ok (.iconst 0, 1) := by decide +kernel
theorem d9_jump_77 : decode b9_jump 77 = .ok (.istore 5, 2) := by decide +kernel
theorem d9_jump_79 : decode b9_jump 79 = .ok (.iload 5, 2) := by decide +kernel
theorem d9_jump_81 : decode b9_jump 81 = .ok (.ifCond .eq 17, 3) := by decide +kernel
theorem d9_jump_84 : decode b9_jump 84 = .ok (.aload_n 0, 1) := by decide +kernel
theorem d9_jump_85 : decode b9_jump 85 = .ok (.getfield 60, 3) := by decide +kernel
theorem d9_jump_88 : decode b9_jump 88 = .ok (.aload_n 0, 1) := by decide +kernel
theorem d9_jump_89 : decode b9_jump 89 = .ok (.getfield 122, 3) := by decide +kernel
theorem d9_jump_92 : decode b9_jump 92 = .ok (.iconst 1, 1) := by decide +kernel
theorem d9_jump_93 : decode b9_jump 93 = .ok (.isub, 1) := by decide +kernel
theorem d9_jump_94 : decode b9_jump 94 = .ok (.laload, 1) := by decide +kernel
theorem d9_jump_95 : decode b9_jump 95 = .ok (.goto 4, 3) := by decide +kernel
theorem d9_jump_98 : decode b9_jump 98 = .ok (.lconst 0, 1) := by decide +kernel
theorem d9_jump_99 : decode b9_jump 99 = .ok (.lstore 6, 2) := by decide +kernel
theorem d9_jump_101 : decode b9_jump 101 = .ok (.iload 5, 2) := by decide +kernel
theorem d9_jump_103 : decode b9_jump 103 = .ok (.ifCond .eq 17, 3) := by decide +kernel
theorem d9_jump_106 : decode b9_jump 106 = .ok (.aload_n 0, 1) := by decide +kernel
theorem d9_jump_107 : decode b9_jump 107 = .ok (.getfield 63, 3) := by decide +kernel
theorem d9_jump_110 : decode b9_jump 110 = .ok (.aload_n 0, 1) := by decide +kernel
theorem d9_jump_111 : decode b9_jump 111 = .ok (.getfield 122, 3) := by decide +kernel
theorem d9_jump_114 : decode b9_jump 114 = .ok (.iconst 1, 1) := by decide +kernel
theorem d9_jump_115 : decode b9_jump 115 = .ok (.isub, 1) := by decide +kernel
theorem d9_jump_116 : decode b9_jump 116 = .ok (.daload, 1) := by decide +kernel
theorem d9_jump_117 : decode b9_jump 117 = .ok (.goto 4, 3) := by decide +kernel
theorem d9_jump_120 : decode b9_jump 120 = .ok (.dconst 0, 1) := by decide +kernel
theorem d9_jump_121 : decode b9_jump 121 = .ok (.dstore 8, 2) := by decide +kernel
theorem d9_jump_123 : decode b9_jump 123 = .ok (.aload_n 0, 1) := by decide +kernel
theorem d9_jump_124 : decode b9_jump 124 = .ok (.aload_n 0, 1) := by decide +kernel
theorem d9_jump_125 : decode b9_jump 125 = .ok (.getfield 50, 3) := by decide +kernel
theorem d9_jump_128 : decode b9_jump 128 = .ok (.iload_n 2, 1) := by decide +kernel
theorem d9_jump_129 : decode b9_jump 129 = .ok (.iaload, 1) := by decide +kernel
theorem d9_jump_130 : decode b9_jump 130 = .ok (.putfield 122, 3) := by decide +kernel
theorem d9_jump_133 : decode b9_jump 133 = .ok (.iload 5, 2) := by decide +kernel
theorem d9_jump_135 : decode b9_jump 135 = .ok (.ifCond .eq 11, 3) := by decide +kernel
theorem d9_jump_138 : decode b9_jump 138 = .ok (.aload_n 0, 1) := by decide +kernel
theorem d9_jump_139 : decode b9_jump 139 = .ok (.lload 6, 2) := by decide +kernel
theorem d9_jump_141 : decode b9_jump 141 = .ok (.dload 8, 2) := by decide +kernel
theorem d9_jump_143 : decode b9_jump 143 = .ok (.invokevirtual 215, 3) := by decide +kernel
theorem d9_jump_146 : decode b9_jump 146 = .ok (.aload_n 0, 1) := by decide +kernel
theorem d9_jump_147 : decode b9_jump 147 = .ok (.iload 4, 2) := by decide +kernel
theorem d9_jump_149 : decode b9_jump 149 = .ok (.ifCond .eq 9, 3) := by decide +kernel
theorem d9_jump_152 : decode b9_jump 152 = .ok (.iload_n 2, 1) := by decide +kernel
theorem d9_jump_153 : decode b9_jump 153 = .ok (.iconst 1, 1) := by decide +kernel
theorem d9_jump_154 : decode b9_jump 154 = .ok (.iadd, 1) := by decide +kernel
theorem d9_jump_155 : decode b9_jump 155 = .ok (.goto 4, 3) := by decide +kernel
theorem d9_jump_158 : decode b9_jump 158 = .ok (.iload_n 2, 1) := by decide +kernel
theorem d9_jump_159 : decode b9_jump 159 = .ok (.putfield 128, 3) := by decide +kernel
theorem d9_jump_162 : decode b9_jump 162 = .ok (.aload_n 0, 1) := by decide +kernel
theorem d9_jump_163 : decode b9_jump 163 = .ok (.iload 4, 2) := by decide +kernel
theorem d9_jump_165 : decode b9_jump 165 = .ok (.ifCond .eq 12, 3) := by decide +kernel
theorem d9_jump_168 : decode b9_jump 168 = .ok (.aload_n 0, 1) := by decide +kernel
theorem d9_jump_169 : decode b9_jump 169 = .ok (.getfield 67, 3) := by decide +kernel
theorem d9_jump_172 : decode b9_jump 172 = .ok (.iload_n 2, 1) := by decide +kernel
theorem d9_jump_173 : decode b9_jump 173 = .ok (.iaload, 1) := by decide +kernel
theorem d9_jump_174 : decode b9_jump 174 = .ok (.goto 17, 3) := by decide +kernel
theorem d9_jump_177 : decode b9_jump 177 = .ok (.aload_n 0, 1) := by decide +kernel
theorem d9_jump_178 : decode b9_jump 178 = .ok (.iload_n 3, 1) := by decide +kernel
theorem d9_jump_179 : decode b9_jump 179 = .ok (.aload_n 0, 1) := by decide +kernel
theorem d9_jump_180 : decode b9_jump 180 = .ok (.getfield 67, 3) := by decide +kernel
theorem d9_jump_183 : decode b9_jump 183 = .ok (.iload_n 2, 1) := by decide +kernel
theorem d9_jump_184 : decode b9_jump 184 = .ok (.iaload, 1) := by decide +kernel
theorem d9_jump_185 : decode b9_jump 185 = .ok (.iconst 0, 1) := by decide +kernel
theorem d9_jump_186 : decode b9_jump 186 = .ok (.invokevirtual 222, 3) := by decide +kernel
theorem d9_jump_189 : decode b9_jump 189 = .ok (.iconst 1, 1) := by decide +kernel
theorem d9_jump_190 : decode b9_jump 190 = .ok (.iadd, 1) := by decide +kernel
theorem d9_jump_191 : decode b9_jump 191 = .ok (.putfield 193, 3) := by decide +kernel
theorem d9_jump_194 : decode b9_jump 194 = .ok (.return_, 1) := by decide +kernel
theorem d9_block_0 : decode b9_block 0 = .ok (.iload_n 2, 1) := by decide +kernel
theorem d9_block_1 : decode b9_block 1 = .ok (.iconst 4, 1) := by decide +kernel
theorem d9_block_2 : decode b9_block 2 = .ok (.if_icmp .ne 14, 3) := by decide +kernel
theorem d9_block_5 : decode b9_block 5 = .ok (.aload_n 0, 1) := by decide +kernel
theorem d9_block_6 : decode b9_block 6 = .ok (.invokevirtual 226, 3) := by decide +kernel
theorem d9_block_9 : decode b9_block 9 = .ok (.ifCond .ne 7, 3) := by decide +kernel
theorem d9_block_12 : decode b9_block 12 = .ok (.iconst 1, 1) := by decide +kernel
theorem d9_block_13 : decode b9_block 13 = .ok (.goto 4, 3) := by decide +kernel
theorem d9_block_16 : decode b9_block 16 = .ok (.iconst 0, 1) := by decide +kernel
theorem d9_block_17 : decode b9_block 17 = .ok (.istore 4, 2) := by decide +kernel
theorem d9_block_19 : decode b9_block 19 = .ok (.aload_n 0, 1) := by decide +kernel
theorem d9_block_20 : decode b9_block 20 = .ok (.getfield 193, 3) := by decide +kernel
theorem d9_block_23 : decode b9_block 23 = .ok (.iconst 2, 1) := by decide +kernel
theorem d9_block_24 : decode b9_block 24 = .ok (.iadd, 1) := by decide +kernel
theorem d9_block_25 : decode b9_block 25 = .ok (.istore 5, 2) := by decide +kernel
theorem d9_block_27 : decode b9_block 27 = .ok (.iload 4, 2) := by decide +kernel
theorem d9_block_29 : decode b9_block 29 = .ok (.ifCond .eq 14, 3) := by decide +kernel
theorem d9_block_32 : decode b9_block 32 = .ok (.aload_n 0, 1) := by decide +kernel
theorem d9_block_33 : decode b9_block 33 = .ok (.iload_n 1, 1) := by decide +kernel
theorem d9_block_34 : decode b9_block 34 = .ok (.iload 5, 2) := by decide +kernel
theorem d9_block_36 : decode b9_block 36 = .ok (.iconst 1, 1) := by decide +kernel
theorem d9_block_37 : decode b9_block 37 = .ok (.invokevirtual 222, 3) := by decide +kernel
theorem d9_block_40 : decode b9_block 40 = .ok (.goto 5, 3) := by decide +kernel
theorem d9_block_43 : decode b9_block 43 = .ok (.iload 5, 2) := by decide +kernel
theorem d9_block_45 : decode b9_block 45 = .ok (.istore 6, 2) := by decide +kernel
theorem d9_block_47 : decode b9_block 47 = .ok (.iload 4, 2) := by decide +kernel
theorem d9_block_49 : decode b9_block 49 = .ok (.ifCond .eq 24, 3) := by decide +kernel
theorem d9_block_52 : decode b9_block 52 = .ok (.aload_n 0, 1) := by decide +kernel
theorem d9_block_53 : decode b9_block 53 = .ok (.iload_n 1, 1) := by decide +kernel
theorem d9_block_54 : decode b9_block 54 = .ok (.iload 6, 2) := by decide +kernel
theorem d9_block_56 : decode b9_block 56 = .ok (.invokevirtual 115, 3) := by decide +kernel
theorem d9_block_59 : decode b9_block 59 = .ok (.bipush 6, 2) := by decide +kernel
theorem d9_block_61 : decode b9_block 61 = .ok (.if_icmp .ne 12, 3) := by decide +kernel
theorem d9_block_64 : decode b9_block 64 = .ok (.aload_n 0, 1) := by decide +kernel
theorem d9_block_65 : decode b9_block 65 = .ok (.iload 6, 2) := by decide +kernel
theorem d9_block_67 : decode b9_block 67 = .ok (.iconst 1, 1) := by decide +kernel
theorem d9_block_68 : decode b9_block 68 = .ok (.iadd, 1) := by decide +kernel
theorem d9_block_69 : decode b9_block 69 = .ok (.putfield 193, 3) := by decide +kernel
theorem d9_block_72 : decode b9_block 72 = .ok (.return_, 1) := by decide +kernel
theorem d9_block_73 : decode b9_block 73 = .ok (.aload_n 0, 1) := by decide +kernel
theorem d9_block_74 : decode b9_block 74 = .ok (.getfield 44, 3) := by decide +kernel
theorem d9_block_77 : decode b9_block 77 = .ok (.aload_n 0, 1) := by decide +kernel
theorem d9_block_78 : decode b9_block 78 = .ok (.getfield 128, 3) := by decide +kernel
theorem d9_block_81 : decode b9_block 81 = .ok (.iload_n 2, 1) := by decide +kernel
theorem d9_block_82 : decode b9_block 82 = .ok (.iastore, 1) := by decide +kernel
theorem d9_block_83 : decode b9_block 83 = .ok (.aload_n 0, 1) := by decide +kernel
theorem d9_block_84 : decode b9_block 84 = .ok (.getfield 47, 3) := by decide +kernel
theorem d9_block_87 : decode b9_block 87 = .ok (.aload_n 0, 1) := by decide +kernel
theorem d9_block_88 : decode b9_block 88 = .ok (.getfield 128, 3) := by decide +kernel
theorem d9_block_91 : decode b9_block 91 = .ok (.iload_n 3, 1) := by decide +kernel
theorem d9_block_92 : decode b9_block 92 = .ok (.iastore, 1) := by decide +kernel
theorem d9_block_93 : decode b9_block 93 = .ok (.aload_n 0, 1) := by decide +kernel
theorem d9_block_94 : decode b9_block 94 = .ok (.getfield 50, 3) := by decide +kernel
theorem d9_block_97 : decode b9_block 97 = .ok (.aload_n 0, 1) := by decide +kernel
theorem d9_block_98 : decode b9_block 98 = .ok (.getfield 128, 3) := by decide +kernel
theorem d9_block_101 : decode b9_block 101 = .ok (.aload_n 0, 1) := by decide +kernel
theorem d9_block_102 : decode b9_block 102 = .ok (.getfield 122, 3) := by decide +kernel
theorem d9_block_105 : decode b9_block 105 = .ok (.iastore, 1) := by decide +kernel
theorem d9_block_106 : decode b9_block 106 = .ok (.aload_n 0, 1) := by decide +kernel
theorem d9_block_107 : decode b9_block 107 = .ok (.getfield 67, 3) := by decide +kernel
theorem d9_block_110 : decode b9_block 110 = .ok (.aload_n 0, 1) := by decide +kernel
theorem d9_block_111 : decode b9_block 111 = .ok (.getfield 128, 3) := by decide +kernel
theorem d9_block_114 : decode b9_block 114 = .ok (.iload 5, 2) := by decide +kernel
theorem d9_block_116 : decode b9_block 116 = .ok (.iastore, 1) := by decide +kernel
theorem d9_block_117 : decode b9_block 117 = .ok (.aload_n 0, 1) := by decide +kernel
theorem d9_block_118 : decode b9_block 118 = .ok (.dup, 1) := by decide +kernel
theorem d9_block_119 : decode b9_block 119 = .ok (.getfield 128, 3) := by decide +kernel
theorem d9_block_122 : decode b9_block 122 = .ok (.iconst 1, 1) := by decide +kernel
theorem d9_block_123 : decode b9_block 123 = .ok (.iadd, 1) := by decide +kernel
theorem d9_block_124 : decode b9_block 124 = .ok (.putfield 128, 3) := by decide +kernel
theorem d9_block_127 : decode b9_block 127 = .ok (.aload_n 0, 1) := by decide +kernel
theorem d9_block_128 : decode b9_block 128 = .ok (.iload 4, 2) := by decide +kernel
theorem d9_block_130 : decode b9_block 130 = .ok (.ifCond .eq 10, 3) := by decide +kernel
theorem d9_block_133 : decode b9_block 133 = .ok (.iload 6, 2) := by decide +kernel
theorem d9_block_135 : decode b9_block 135 = .ok (.iconst 1, 1) := by decide +kernel
theorem d9_block_136 : decode b9_block 136 = .ok (.iadd, 1) := by decide +kernel
theorem d9_block_137 : decode b9_block 137 = .ok (.goto 5, 3) := by decide +kernel
theorem d9_block_140 : decode b9_block 140 = .ok (.iload 5, 2) := by decide +kernel
theorem d9_block_142 : decode b9_block 142 = .ok (.putfield 193, 3) := by decide +kernel
theorem d9_block_145 : decode b9_block 145 = .ok (.return_, 1) := by decide +kernel
theorem d9_agree_0 : decode b9_agree 0 = .ok (.aload_n 0, 1) := by decide +kernel
theorem d9_agree_1 : decode b9_agree 1 = .ok (.getfield 13, 3) := by decide +kernel
theorem d9_agree_4 : decode b9_agree 4 = .ok (.iload_n 1, 1) := by decide +kernel
theorem d9_agree_5 : decode b9_agree 5 = .ok (.iaload, 1) := by decide +kernel
theorem d9_agree_6 : decode b9_agree 6 = .ok (.aload_n 0, 1) := by decide +kernel
theorem d9_agree_7 : decode b9_agree 7 = .ok (.getfield 13, 3) := by decide +kernel
theorem d9_agree_10 : decode b9_agree 10 = .ok (.iload_n 2, 1) := by decide +kernel
theorem d9_agree_11 : decode b9_agree 11 = .ok (.iaload, 1) := by decide +kernel
theorem d9_agree_12 : decode b9_agree 12 = .ok (.if_icmp .ne 18, 3) := by decide +kernel
theorem d9_agree_15 : decode b9_agree 15 = .ok (.aload_n 0, 1) := by decide +kernel
theorem d9_agree_16 : decode b9_agree 16 = .ok (.getfield 19, 3) := by decide +kernel
theorem d9_agree_19 : decode b9_agree 19 = .ok (.iload_n 1, 1) := by decide +kernel
theorem d9_agree_20 : decode b9_agree 20 = .ok (.iaload, 1) := by decide +kernel
theorem d9_agree_21 : decode b9_agree 21 = .ok (.aload_n 0, 1) := by decide +kernel
theorem d9_agree_22 : decode b9_agree 22 = .ok (.getfield 19, 3) := by decide +kernel
theorem d9_agree_25 : decode b9_agree 25 = .ok (.iload_n 2, 1) := by decide +kernel
theorem d9_agree_26 : decode b9_agree 26 = .ok (.iaload, 1) := by decide +kernel
theorem d9_agree_27 : decode b9_agree 27 = .ok (.if_icmp .eq 5, 3) := by decide +kernel
theorem d9_agree_30 : decode b9_agree 30 = .ok (.iconst 0, 1) := by decide +kernel
theorem d9_agree_31 : decode b9_agree 31 = .ok (.ireturn, 1) := by decide +kernel
theorem d9_agree_32 : decode b9_agree 32 = .ok (.iconst 0, 1) := by decide +kernel
theorem d9_agree_33 : decode b9_agree 33 = .ok (.istore_n 3, 1) := by decide +kernel
theorem d9_agree_34 : decode b9_agree 34 = .ok (.iload_n 3, 1) := by decide +kernel
theorem d9_agree_35 : decode b9_agree 35 = .ok (.aload_n 0, 1) := by decide +kernel
theorem d9_agree_36 : decode b9_agree 36 = .ok (.getfield 13, 3) := by decide +kernel
theorem d9_agree_39 : decode b9_agree 39 = .ok (.iload_n 1, 1) := by decide +kernel
theorem d9_agree_40 : decode b9_agree 40 = .ok (.iaload, 1) := by decide +kernel
theorem d9_agree_41 : decode b9_agree 41 = .ok (.if_icmp .ge 36, 3) := by decide +kernel
theorem d9_agree_44 : decode b9_agree 44 = .ok (.aload_n 0, 1) := by decide +kernel
theorem d9_agree_45 : decode b9_agree 45 = .ok (.getfield 7, 3) := by decide +kernel
theorem d9_agree_48 : decode b9_agree 48 = .ok (.bipush 6, 2) := by decide +kernel
theorem d9_agree_50 : decode b9_agree 50 = .ok (.iload_n 1, 1) := by decide +kernel
theorem d9_agree_51 : decode b9_agree 51 = .ok (.imul, 1) := by decide +kernel
theorem d9_agree_52 : decode b9_agree 52 = .ok (.iload_n 3, 1) := by decide +kernel
theorem d9_agree_53 : decode b9_agree 53 = .ok (.iadd, 1) := by decide +kernel
theorem d9_agree_54 : decode b9_agree 54 = .ok (.iaload, 1) := by decide +kernel
theorem d9_agree_55 : decode b9_agree 55 = .ok (.aload_n 0, 1) := by decide +kernel
theorem d9_agree_56 : decode b9_agree 56 = .ok (.getfield 7, 3) := by decide +kernel
theorem d9_agree_59 : decode b9_agree 59 = .ok (.bipush 6, 2) := by decide +kernel
theorem d9_agree_61 : decode b9_agree 61 = .ok (.iload_n 2, 1) := by decide +kernel
theorem d9_agree_62 : decode b9_agree 62 = .ok (.imul, 1) := by decide +kernel
theorem d9_agree_63 : decode b9_agree 63 = .ok (.iload_n 3, 1) := by decide +kernel
theorem d9_agree_64 : decode b9_agree 64 = .ok (.iadd, 1) := by decide +kernel
theorem d9_agree_65 : decode b9_agree 65 = .ok (.iaload, 1) := by decide +kernel
theorem d9_agree_66 : decode b9_agree 66 = .ok (.if_icmp .eq 5, 3) := by decide +kernel
theorem d9_agree_69 : decode b9_agree 69 = .ok (.iconst 0, 1) := by decide +kernel
theorem d9_agree_70 : decode b9_agree 70 = .ok (.ireturn, 1) := by decide +kernel
theorem d9_agree_71 : decode b9_agree 71 = .ok (.iinc 3 1, 3) := by decide +kernel
theorem d9_agree_74 : decode b9_agree 74 = .ok (.goto (-40), 3) := by decide +kernel
theorem d9_agree_77 : decode b9_agree 77 = .ok (.iconst 1, 1) := by decide +kernel
theorem d9_agree_78 : decode b9_agree 78 = .ok (.ireturn, 1) := by decide +kernel
theorem d9_call_0 : decode b9_call 0 = .ok (.iload_n 2, 1) := by decide +kernel
theorem d9_call_1 : decode b9_call 1 = .ok (.istore_n 3, 1) := by decide +kernel
theorem d9_call_2 : decode b9_call 2 = .ok (.iload_n 1, 1) := by decide +kernel
theorem d9_call_3 : decode b9_call 3 = .ok (.bipush 12, 2) := by decide +kernel
theorem d9_call_5 : decode b9_call 5 = .ok (.if_icmp .ne 60, 3) := by decide +kernel
theorem d9_call_8 : decode b9_call 8 = .ok (.aload_n 0, 1) := by decide +kernel
theorem d9_call_9 : decode b9_call 9 = .ok (.invokevirtual 226, 3) := by decide +kernel
theorem d9_call_12 : decode b9_call 12 = .ok (.istore 4, 2) := by decide +kernel
theorem d9_call_14 : decode b9_call 14 = .ok (.iload 4, 2) := by decide +kernel
theorem d9_call_16 : decode b9_call 16 = .ok (.iconst 0, 1) := by decide +kernel
theorem d9_call_17 : decode b9_call 17 = .ok (.bipush 7, 2) := by decide +kernel
theorem d9_call_19 : decode b9_call 19 = .ok (.invokestatic 92, 3) := by decide +kernel
theorem d9_call_22 : decode b9_call 22 = .ok (.ifCond .eq 13, 3) := by decide +kernel
theorem d9_call_25 : decode b9_call 25 = .ok (.aload_n 0, 1) := by decide +kernel
theorem d9_call_26 : decode b9_call 26 = .ok (.getfield 28, 3) := by decide +kernel
theorem d9_call_29 : decode b9_call 29 = .ok (.iload 4, 2) := by decide +kernel
theorem d9_call_31 : decode b9_call 31 = .ok (.iaload, 1) := by decide +kernel
theorem d9_call_32 : decode b9_call 32 = .ok (.goto 4, 3) := by decide +kernel
theorem d9_call_35 : decode b9_call 35 = .ok (.iconst (-1), 1) := by decide +kernel
theorem d9_call_36 : decode b9_call 36 = .ok (.istore_n 3, 1) := by decide +kernel
theorem d9_call_37 : decode b9_call 37 = .ok (.iload_n 3, 1) := by decide +kernel
theorem d9_call_38 : decode b9_call 38 = .ok (.ifCond .lt 21, 3) := by decide +kernel
theorem d9_call_41 : decode b9_call 41 = .ok (.aload_n 0, 1) := by decide +kernel
theorem d9_call_42 : decode b9_call 42 = .ok (.getfield 25, 3) := by decide +kernel
theorem d9_call_45 : decode b9_call 45 = .ok (.iload_n 3, 1) := by decide +kernel
theorem d9_call_46 : decode b9_call 46 = .ok (.iaload, 1) := by decide +kernel
theorem d9_call_47 : decode b9_call 47 = .ok (.ifCond .eq 12, 3) := by decide +kernel
theorem d9_call_50 : decode b9_call 50 = .ok (.aload_n 0, 1) := by decide +kernel
theorem d9_call_51 : decode b9_call 51 = .ok (.iload_n 3, 1) := by decide +kernel
theorem d9_call_52 : decode b9_call 52 = .ok (.iload_n 2, 1) := by decide +kernel
theorem d9_call_53 : decode b9_call 53 = .ok (.invokevirtual 229, 3) := by decide +kernel
theorem d9_call_56 : decode b9_call 56 = .ok (.ifCond .ne 9, 3) := by decide +kernel
theorem d9_call_59 : decode b9_call 59 = .ok (.aload_n 0, 1) := by decide +kernel
theorem d9_call_60 : decode b9_call 60 = .ok (.iconst 4, 1) := by decide +kernel
theorem d9_call_61 : decode b9_call 61 = .ok (.putfield 233, 3) := by decide +kernel
theorem d9_call_64 : decode b9_call 64 = .ok (.return_, 1) := by decide +kernel
theorem d9_call_65 : decode b9_call 65 = .ok (.aload_n 0, 1) := by decide +kernel
theorem d9_call_66 : decode b9_call 66 = .ok (.getfield 13, 3) := by decide +kernel
theorem d9_call_69 : decode b9_call 69 = .ok (.iload_n 3, 1) := by decide +kernel
theorem d9_call_70 : decode b9_call 70 = .ok (.iaload, 1) := by decide +kernel
theorem d9_call_71 : decode b9_call 71 = .ok (.istore 4, 2) := by decide +kernel
theorem d9_call_73 : decode b9_call 73 = .ok (.aload_n 0, 1) := by decide +kernel
theorem d9_call_74 : decode b9_call 74 = .ok (.dup, 1) := by decide +kernel
theorem d9_call_75 : decode b9_call 75 = .ok (.getfield 122, 3) := by decide +kernel
theorem d9_call_78 : decode b9_call 78 = .ok (.iload 4, 2) := by decide +kernel
theorem d9_call_80 : decode b9_call 80 = .ok (.isub, 1) := by decide +kernel
theorem d9_call_81 : decode b9_call 81 = .ok (.putfield 122, 3) := by decide +kernel
theorem d9_call_84 : decode b9_call 84 = .ok (.aload_n 0, 1) := by decide +kernel
theorem d9_call_85 : decode b9_call 85 = .ok (.getfield 190, 3) := by decide +kernel
theorem d9_call_88 : decode b9_call 88 = .ok (.bipush 6, 2) := by decide +kernel
theorem d9_call_90 : decode b9_call 90 = .ok (.if_icmp .ne 9, 3) := by decide +kernel
theorem d9_call_93 : decode b9_call 93 = .ok (.aload_n 0, 1) := by decide +kernel
theorem d9_call_94 : decode b9_call 94 = .ok (.iconst 1, 1) := by decide +kernel
theorem d9_call_95 : decode b9_call 95 = .ok (.putfield 233, 3) := by decide +kernel
theorem d9_call_98 : decode b9_call 98 = .ok (.return_, 1) := by decide +kernel
theorem d9_call_99 : decode b9_call 99 = .ok (.iconst 0, 1) := by decide +kernel
theorem d9_call_100 : decode b9_call 100 = .ok (.istore 5, 2) := by decide +kernel
theorem d9_call_102 : decode b9_call 102 = .ok (.iload 5, 2) := by decide +kernel
theorem d9_call_104 : decode b9_call 104 = .ok (.bipush 6, 2) := by decide +kernel
theorem d9_call_106 : decode b9_call 106 = .ok (.if_icmp .ge 85, 3) := by decide +kernel
theorem d9_call_109 : decode b9_call 109 = .ok (.aload_n 0, 1) := by decide +kernel
theorem d9_call_110 : decode b9_call 110 = .ok (.getfield 70, 3) := by decide +kernel
theorem d9_call_113 : decode b9_call 113 = .ok (.bipush 6, 2) := by decide +kernel
theorem d9_call_115 : decode b9_call 115 = .ok (.aload_n 0, 1) := by decide +kernel
theorem d9_call_116 : decode b9_call 116 = .ok (.getfield 190, 3) := by decide +kernel
theorem d9_call_119 : decode b9_call 119 = .ok (.imul, 1) := by decide +kernel
theorem d9_call_120 : decode b9_call 120 = .ok (.iload 5, 2) := by decide +kernel
theorem d9_call_122 : decode b9_call 122 = .ok (.iadd, 1) := by decide +kernel
theorem d9_call_123 : decode b9_call 123 = .ok (.iload 5, 2) := by decide +kernel
theorem d9_call_125 : decode b9_call 125 = .ok (.iload 4, 2) := by decide +kernel
theorem d9_call_127 : decode b9_call 127 = .ok (.if_icmp .ge 18, 3) := by decide +kernel
theorem d9_call_130 : decode b9_call 130 = .ok (.aload_n 0, 1) := by decide +kernel
theorem d9_call_131 : decode b9_call 131 = .ok (.getfield 60, 3) := by decide +kernel
theorem d9_call_134 : decode b9_call 134 = .ok (.aload_n 0, 1) := by decide +kernel
theorem d9_call_135 : decode b9_call 135 = .ok (.getfield 122, 3) := by decide +kernel
theorem d9_call_138 : decode b9_call 138 = .ok (.iload 5, 2) := by decide +kernel
theorem d9_call_140 : decode b9_call 140 = .ok (.iadd, 1) := by decide +kernel
theorem d9_call_141 : decode b9_call 141 = .ok (.laload, 1) := by decide +kernel
theorem d9_call_142 : decode b9_call 142 = .ok (.goto 4, 3) := by decide +kernel
theorem d9_call_145 : decode b9_call 145 = .ok (.lconst 0, 1) := by decide +kernel
theorem d9_call_146 : decode b9_call 146 = .ok (.lastore, 1) := by decide +kernel
theorem d9_call_147 : decode b9_call 147 = .ok (.aload_n 0, 1) := by decide +kernel
theorem d9_call_148 : decode b9_call 148 = .ok (.getfield 73, 3) := by decide +kernel
theorem d9_call_151 : decode b9_call 151 = .ok (.bipush 6, 2) := by decide +kernel
theorem d9_call_153 : decode b9_call 153 = .ok (.aload_n 0, 1) := by decide +kernel
theorem d9_call_154 : decode b9_call 154 = .ok (.getfield 190, 3) := by decide +kernel
theorem d9_call_157 : decode b9_call 157 = .ok (.imul, 1) := by decide +kernel
theorem d9_call_158 : decode b9_call 158 = .ok (.iload 5, 2) := by decide +kernel
theorem d9_call_160 : decode b9_call 160 = .ok (.iadd, 1) := by decide +kernel
theorem d9_call_161 : decode b9_call 161 = .ok (.iload 5, 2) := by decide +kernel
theorem d9_call_163 : decode b9_call 163 = .ok (.iload 4, 2) := by decide +kernel
theorem d9_call_165 : decode b9_call 165 = .ok (.if_icmp .ge 18, 3) := by decide +kernel
theorem d9_call_168 : decode b9_call 168 = .ok (.aload_n 0, 1) := by decide +kernel
theorem d9_call_169 : decode b9_call 169 = .ok (.getfield 63, 3) := by decide +kernel
theorem d9_call_172 : decode b9_call 172 = .ok (.aload_n 0, 1) := by decide +kernel
theorem d9_call_173 : decode b9_call 173 = .ok (.getfield 122, 3) := by decide +kernel
theorem d9_call_176 : decode b9_call 176 = .ok (.iload 5, 2) := by decide +kernel
theorem d9_call_178 : decode b9_call 178 = .ok (.iadd, 1) := by decide +kernel
theorem d9_call_179 : decode b9_call 179 = .ok (.daload, 1) := by decide +kernel
theorem d9_call_180 : decode b9_call 180 = .ok (.goto 4, 3) := by decide +kernel
theorem d9_call_183 : decode b9_call 183 = .ok (.dconst 0, 1) := by decide +kernel
theorem d9_call_184 : decode b9_call 184 = .ok (.dastore, 1) := by decide +kernel
theorem d9_call_185 : decode b9_call 185 = .ok (.iinc 5 1, 3) := by decide +kernel
theorem d9_call_188 : decode b9_call 188 = .ok (.goto (-86), 3) := by decide +kernel
theorem d9_call_191 : decode b9_call 191 = .ok (.aload_n 0, 1) := by decide +kernel
theorem d9_call_192 : decode b9_call 192 = .ok (.iload_n 3, 1) := by decide +kernel
theorem d9_call_193 : decode b9_call 193 = .ok (.aload_n 0, 1) := by decide +kernel
theorem d9_call_194 : decode b9_call 194 = .ok (.getfield 193, 3) := by decide +kernel
theorem d9_call_197 : decode b9_call 197 = .ok (.iconst 2, 1) := by decide +kernel
theorem d9_call_198 : decode b9_call 198 = .ok (.iadd, 1) := by decide +kernel
theorem d9_call_199 : decode b9_call 199 = .ok (.invokevirtual 201, 3) := by decide +kernel
theorem d9_call_202 : decode b9_call 202 = .ok (.return_, 1) := by decide +kernel
theorem d9_variable_0 : decode b9_variable 0 = .ok (.bipush 6, 2) := by decide +kernel
theorem d9_variable_2 : decode b9_variable 2 = .ok (.aload_n 0, 1) := by decide +kernel
theorem d9_variable_3 : decode b9_variable 3 = .ok (.getfield 190, 3) := by decide +kernel
theorem d9_variable_6 : decode b9_variable 6 = .ok (.iconst 1, 1) := by decide +kernel
theorem d9_variable_7 : decode b9_variable 7 = .ok (.isub, 1) := by decide +kernel
theorem d9_variable_8 : decode b9_variable 8 = .ok (.imul, 1) := by decide +kernel
theorem d9_variable_9 : decode b9_variable 9 = .ok (.iload_n 2, 1) := by decide +kernel
theorem d9_variable_10 : decode b9_variable 10 = .ok (.iadd, 1) := by decide +kernel
theorem d9_variable_11 : decode b9_variable 11 = .ok (.istore_n 3, 1) := by decide +kernel
theorem d9_variable_12 : decode b9_variable 12 = .ok (.iload_n 1, 1) := by decide +kernel
theorem d9_variable_13 : decode b9_variable 13 = .ok (.bipush 15, 2) := by decide +kernel
theorem d9_variable_15 : decode b9_variable 15 = .ok (.if_icmp .ne 22, 3) := by decide +kernel
theorem d9_variable_18 : decode b9_variable 18 = .ok (.aload_n 0, 1) := by decide +kernel
theorem d9_variable_19 : decode b9_variable 19 = .ok (.aload_n 0, 1) := by decide +kernel
theorem d9_variable_20 : decode b9_variable 20 = .ok (.getfield 70, 3) := by decide +kernel
theorem d9_variable_23 : decode b9_variable 23 = .ok (.iload_n 3, 1) := by decide +kernel
theorem d9_variable_24 : decode b9_variable 24 = .ok (.laload, 1) := by decide +kernel
theorem d9_variable_25 : decode b9_variable 25 = .ok (.aload_n 0, 1) := by decide +kernel
theorem d9_variable_26 : decode b9_variable 26 = .ok (.getfield 73, 3) := by decide +kernel
theorem d9_variable_29 : decode b9_variable 29 = .ok (.iload_n 3, 1) := by decide +kernel
theorem d9_variable_30 : decode b9_variable 30 = .ok (.daload, 1) := by decide +kernel
theorem d9_variable_31 : decode b9_variable 31 = .ok (.invokevirtual 215, 3) := by decide +kernel
theorem d9_variable_34 : decode b9_variable 34 = .ok (.goto 136, 3) := by decide +kernel
theorem d9_variable_37 : decode b9_variable 37 = .ok (.iload_n 1, 1) := by decide +kernel
theorem d9_variable_38 : decode b9_variable 38 = .ok (.bipush 18, 2) := by decide +kernel
theorem d9_variable_40 : decode b9_variable 40 = .ok (.if_icmp .ne 20, 3) := by decide +kernel
theorem d9_variable_43 : decode b9_variable 43 = .ok (.aload_n 0, 1) := by decide +kernel
theorem d9_variable_44 : decode b9_variable 44 = .ok (.aload_n 0, 1) := by decide +kernel
theorem d9_variable_45 : decode b9_variable 45 = .ok (.getfield 34, 3) := by decide +kernel
theorem d9_variable_48 : decode b9_variable 48 = .ok (.iload_n 2, 1) := by decide +kernel
theorem d9_variable_49 : decode b9_variable 49 = .ok (.laload, 1) := by decide +kernel
theorem d9_variable_50 : decode b9_variable 50 = .ok (.aload_n 0, 1) := by decide +kernel
theorem d9_variable_51 : decode b9_variable 51 = .ok (.getfield 236, 3) := by decide +kernel
theorem d9_variable_54 : decode b9_variable 54 = .ok (.invokevirtual 215, 3) := by decide +kernel
theorem d9_variable_57 : decode b9_variable 57 = .ok (.goto 113, 3) := by decide +kernel
theorem d9_variable_60 : decode b9_variable 60 = .ok (.iload_n 1, 1) := by decide +kernel
theorem d9_variable_61 : decode b9_variable 61 = .ok (.bipush 17, 2) := by decide +kernel
theorem d9_variable_63 : decode b9_variable 63 = .ok (.if_icmp .eq 13, 3) := by decide +kernel
theorem d9_variable_66 : decode b9_variable 66 = .ok (.aload_n 0, 1) := by decide +kernel
theorem d9_variable_67 : decode b9_variable 67 = .ok (.dup, 1) := by decide +kernel
theorem d9_variable_68 : decode b9_variable 68 = .ok (.getfield 122, 3) := by decide +kernel
theorem d9_variable_71 : decode b9_variable 71 = .ok (.iconst 1, 1) := by decide +kernel
theorem d9_variable_72 : decode b9_variable 72 = .ok (.isub, 1) := by decide +kernel
theorem d9_variable_73 : decode b9_variable 73 = .ok (.putfield 122, 3) := by decide +kernel
theorem d9_variable_76 : decode b9_variable 76 = .ok (.iload_n 1, 1) := by decide +kernel
theorem d9_variable_77 : decode b9_variable 77 = .ok (.bipush 17, 2) := by decide +kernel
theorem d9_variable_79 : decode b9_variable 79 = .ok (.if_icmp .ne 12, 3) := by decide +kernel
theorem d9_variable_82 : decode b9_variable 82 = .ok (.aload_n 0, 1) := by decide +kernel
theorem d9_variable_83 : decode b9_variable 83 = .ok (.getfield 122, 3) := by decide +kernel
theorem d9_variable_86 : decode b9_variable 86 = .ok (.iconst 1, 1) := by decide +kernel
theorem d9_variable_87 : decode b9_variable 87 = .ok (.isub, 1) := by decide +kernel
theorem d9_variable_88 : decode b9_variable 88 = .ok (.goto 7, 3) := by decide +kernel
theorem d9_variable_91 : decode b9_variable 91 = .ok (.aload_n 0, 1) := by decide +kernel
theorem d9_variable_92 : decode b9_variable 92 = .ok (.getfield 122, 3) := by decide +kernel
theorem d9_variable_95 : decode b9_variable 95 = .ok (.istore 4, 2) := by decide +kernel
theorem d9_variable_97 : decode b9_variable 97 = .ok (.iload_n 1, 1) := by decide +kernel
theorem d9_variable_98 : decode b9_variable 98 = .ok (.bipush 19, 2) := by decide +kernel
theorem d9_variable_100 : decode b9_variable 100 = .ok (.if_icmp .ne 22, 3) := by decide +kernel
theorem d9_variable_103 : decode b9_variable 103 = .ok (.iload_n 2, 1) := by decide +kernel
theorem d9_variable_104 : decode b9_variable 104 = .ok (.iconst 2, 1) := by decide +kernel
theorem d9_variable_105 : decode b9_variable 105 = .ok (.if_icmp .ne 17, 3) := by decide +kernel
theorem d9_variable_108 : decode b9_variable 108 = .ok (.aload_n 0, 1) := by decide +kernel
theorem d9_variable_109 : decode b9_variable 109 = .ok (.aload_n 0, 1) := by decide +kernel
theorem d9_variable_110 : decode b9_variable 110 = .ok (.getfield 63, 3) := by decide +kernel
theorem d9_variable_113 : decode b9_variable 113 = .ok (.iload 4, 2) := by decide +kernel
theorem d9_variable_115 : decode b9_variable 115 = .ok (.daload, 1) := by decide +kernel
theorem d9_variable_116 : decode b9_variable 116 = .ok (.putfield 236, 3) := by decide +kernel
theorem d9_variable_119 : decode b9_variable 119 = .ok (.goto 51, 3) := by decide +kernel
theorem d9_variable_122 : decode b9_variable 122 = .ok (.iload_n 1, 1) := by decide +kernel
theorem d9_variable_123 : decode b9_variable 123 = .ok (.bipush 19, 2) := by decide +kernel
theorem d9_variable_125 : decode b9_variable 125 = .ok (.if_icmp .ne 19, 3) := by decide +kernel
theorem d9_variable_128 : decode b9_variable 128 = .ok (.aload_n 0, 1) := by decide +kernel
theorem d9_variable_129 : decode b9_variable 129 = .ok (.getfield 34, 3) := by decide +kernel
theorem d9_variable_132 : decode b9_variable 132 = .ok (.iload_n 2, 1) := by decide +kernel
theorem d9_variable_133 : decode b9_variable 133 = .ok (.aload_n 0, 1) := by decide +kernel
theorem d9_variable_134 : decode b9_variable 134 = .ok (.getfield 60, 3) := by decide +kernel
theorem d9_variable_137 : decode b9_variable 137 = .ok (.iload 4, 2) := by decide +kernel
theorem d9_variable_139 : decode b9_variable 139 = .ok (.laload, 1) := by decide +kernel
theorem d9_variable_140 : decode b9_variable 140 = .ok (.lastore, 1) := by decide +kernel
theorem d9_variable_141 : decode b9_variable 141 = .ok (.goto 29, 3) := by decide +kernel
theorem d9_variable_144 : decode b9_variable 144 = .ok (.aload_n 0, 1) := by decide +kernel
theorem d9_variable_145 : decode b9_variable 145 = .ok (.getfield 70, 3) := by decide +kernel
theorem d9_variable_148 : decode b9_variable 148 = .ok (.iload_n 3, 1) := by decide +kernel
theorem d9_variable_149 : decode b9_variable 149 = .ok (.aload_n 0, 1) := by decide +kernel
theorem d9_variable_150 : decode b9_variable 150 = .ok (.getfield 60, 3) := by decide +kernel
theorem d9_variable_153 : decode b9_variable 153 = .ok (.iload 4, 2) := by decide +kernel
theorem d9_variable_155 : decode b9_variable 155 = .ok (.laload, 1) := by decide +kernel
theorem d9_variable_156 : decode b9_variable 156 = .ok (.lastore, 1) := by decide +kernel
theorem d9_variable_157 : decode b9_variable 157 = .ok (.aload_n 0, 1) := by decide +kernel
theorem d9_variable_158 : decode b9_variable 158 = .ok (.getfield 73, 3) := by decide +kernel
theorem d9_variable_161 : decode b9_variable 161 = .ok (.iload_n 3, 1) := by decide +kernel
theorem d9_variable_162 : decode b9_variable 162 = .ok (.aload_n 0, 1) := by decide +kernel
theorem d9_variable_163 : decode b9_variable 163 = .ok (.getfield 63, 3) := by decide +kernel
theorem d9_variable_166 : decode b9_variable 166 = .ok (.iload 4, 2) := by decide +kernel
theorem d9_variable_168 : decode b9_variable 168 = .ok (.daload, 1) := by decide +kernel
theorem d9_variable_169 : decode b9_variable 169 = .ok (.dastore, 1) := by decide +kernel
theorem d9_variable_170 : decode b9_variable 170 = .ok (.return_, 1) := by decide +kernel
theorem d9_access_0 : decode b9_access 0 = .ok (.iload_n 1, 1) := by decide +kernel
theorem d9_access_1 : decode b9_access 1 = .ok (.bipush 24, 2) := by decide +kernel
theorem d9_access_3 : decode b9_access 3 = .ok (.if_icmp .eq 9, 3) := by decide +kernel
theorem d9_access_6 : decode b9_access 6 = .ok (.iload_n 1, 1) := by decide +kernel
theorem d9_access_7 : decode b9_access 7 = .ok (.bipush 27, 2) := by decide +kernel
theorem d9_access_9 : decode b9_access 9 = .ok (.if_icmp .ne 7, 3) := by decide +kernel
theorem d9_access_12 : decode b9_access 12 = .ok (.iconst 1, 1) := by decide +kernel
theorem d9_access_13 : decode b9_access 13 = .ok (.goto 21, 3) := by decide +kernel
theorem d9_access_16 : decode b9_access 16 = .ok (.iload_n 1, 1) := by decide +kernel
theorem d9_access_17 : decode b9_access 17 = .ok (.bipush 25, 2) := by decide +kernel
theorem d9_access_19 : decode b9_access 19 = .ok (.if_icmp .eq 9, 3) := by decide +kernel
theorem d9_access_22 : decode b9_access 22 = .ok (.iload_n 1, 1) := by decide +kernel
theorem d9_access_23 : decode b9_access 23 = .ok (.bipush 28, 2) := by decide +kernel
theorem d9_access_25 : decode b9_access 25 = .ok (.if_icmp .ne 8, 3) := by decide +kernel
theorem d9_access_28 : decode b9_access 28 = .ok (.bipush 8, 2) := by decide +kernel
theorem d9_access_30 : decode b9_access 30 = .ok (.goto 4, 3) := by decide +kernel
theorem d9_access_33 : decode b9_access 33 = .ok (.iconst 4, 1) := by decide +kernel
theorem d9_access_34 : decode b9_access 34 = .ok (.istore_n 3, 1) := by decide +kernel
theorem d9_access_35 : decode b9_access 35 = .ok (.iload_n 1, 1) := by decide +kernel
theorem d9_access_36 : decode b9_access 36 = .ok (.bipush 26, 2) := by decide +kernel
theorem d9_access_38 : decode b9_access 38 = .ok (.if_icmp .lt 13, 3) := by decide +kernel
theorem d9_access_41 : decode b9_access 41 = .ok (.aload_n 0, 1) := by decide +kernel
theorem d9_access_42 : decode b9_access 42 = .ok (.dup, 1) := by decide +kernel
theorem d9_access_43 : decode b9_access 43 = .ok (.getfield 122, 3) := by decide +kernel
theorem d9_access_46 : decode b9_access 46 = .ok (.iconst 1, 1) := by decide +kernel
theorem d9_access_47 : decode b9_access 47 = .ok (.isub, 1) := by decide +kernel
theorem d9_access_48 : decode b9_access 48 = .ok (.putfield 122, 3) := by decide +kernel
theorem d9_access_51 : decode b9_access 51 = .ok (.aload_n 0, 1) := by decide +kernel
theorem d9_access_52 : decode b9_access 52 = .ok (.getfield 60, 3) := by decide +kernel
theorem d9_access_55 : decode b9_access 55 = .ok (.aload_n 0, 1) := by decide +kernel
theorem d9_access_56 : decode b9_access 56 = .ok (.getfield 122, 3) := by decide +kernel
theorem d9_access_59 : decode b9_access 59 = .ok (.laload, 1) := by decide +kernel
theorem d9_access_60 : decode b9_access 60 = .ok (.lstore 4, 2) := by decide +kernel
theorem d9_access_62 : decode b9_access 62 = .ok (.aload_n 0, 1) := by decide +kernel
theorem d9_access_63 : decode b9_access 63 = .ok (.invokevirtual 226, 3) := by decide +kernel
theorem d9_access_66 : decode b9_access 66 = .ok (.i2l, 1) := by decide +kernel
theorem d9_access_67 : decode b9_access 67 = .ok (.iload_n 2, 1) := by decide +kernel
theorem d9_access_68 : decode b9_access 68 = .ok (.i2l, 1) := by decide +kernel
theorem d9_access_69 : decode b9_access 69 = .ok (.ladd, 1) := by decide +kernel
theorem d9_access_70 : decode b9_access 70 = .ok (.lstore 6, 2) := by decide +kernel
theorem d9_access_72 : decode b9_access 72 = .ok (.lload 6, 2) := by decide +kernel
theorem d9_access_74 : decode b9_access 74 = .ok (.lconst 0, 1) := by decide +kernel
theorem d9_access_75 : decode b9_access 75 = .ok (.lcmp, 1) := by decide +kernel
theorem d9_access_76 : decode b9_access 76 = .ok (.ifCond .lt 15, 3) := by decide +kernel
theorem d9_access_79 : decode b9_access 79 = .ok (.lload 6, 2) := by decide +kernel
theorem d9_access_81 : decode b9_access 81 = .ok (.iload_n 3, 1) := by decide +kernel
theorem d9_access_82 : decode b9_access 82 = .ok (.i2l, 1) := by decide +kernel
theorem d9_access_83 : decode b9_access 83 = .ok (.ladd, 1) := by decide +kernel
theorem d9_access_84 : decode b9_access 84 = .ok (.ldc2_w 239, 3) := by decide +kernel
theorem d9_access_87 : decode b9_access 87 = .ok (.lcmp, 1) := by decide +kernel
theorem d9_access_88 : decode b9_access 88 = .ok (.ifCond .le 9, 3) := by decide +kernel
theorem d9_access_91 : decode b9_access 91 = .ok (.aload_n 0, 1) := by decide +kernel
theorem d9_access_92 : decode b9_access 92 = .ok (.iconst 3, 1) := by decide +kernel
theorem d9_access_93 : decode b9_access 93 = .ok (.putfield 233, 3) := by decide +kernel
theorem d9_access_96 : decode b9_access 96 = .ok (.return_, 1) := by decide +kernel
theorem d9_access_97 : decode b9_access 97 = .ok (.lconst 0, 1) := by decide +kernel
theorem d9_access_98 : decode b9_access 98 = .ok (.lstore 8, 2) := by decide +kernel
theorem d9_access_100 : decode b9_access 100 = .ok (.iload_n 3, 1) := by decide +kernel
theorem d9_access_101 : decode b9_access 101 = .ok (.iconst 1, 1) := by decide +kernel
theorem d9_access_102 : decode b9_access 102 = .ok (.isub, 1) := by decide +kernel
theorem d9_access_103 : decode b9_access 103 = .ok (.istore 10, 2) := by decide +kernel
theorem d9_access_105 : decode b9_access 105 = .ok (.iload 10, 2) := by decide +kernel
theorem d9_access_107 : decode b9_access 107 = .ok (.ifCond .lt 62, 3) := by decide +kernel
theorem d9_access_110 : decode b9_access 110 = .ok (.lload 6, 2) := by decide +kernel
theorem d9_access_112 : decode b9_access 112 = .ok (.l2i, 1) := by decide +kernel
theorem d9_access_113 : decode b9_access 113 = .ok (.iload 10, 2) := by decide +kernel
theorem d9_access_115 : decode b9_access 115 = .ok (.iadd, 1) := by decide +kernel
theorem d9_access_116 : decode b9_access 116 = .ok (.istore 11, 2) := by decide +kernel
theorem d9_access_118 : decode b9_access 118 = .ok (.iload_n 1, 1) := by decide +kernel
theorem d9_access_119 : decode b9_access 119 = .ok (.bipush 26, 2) := by decide +kernel
theorem d9_access_121 : decode b9_access 121 = .ok (.if_icmp .lt 26, 3) := by decide +kernel
theorem d9_access_124 : decode b9_access 124 = .ok (.aload_n 0, 1) := by decide +kernel
theorem d9_access_125 : decode b9_access 125 = .ok (.getfield 31, 3) := by decide +kernel
theorem d9_access_128 : decode b9_access 128 = .ok (.iload 11, 2) := by decide +kernel
theorem d9_access_130 : decode b9_access 130 = .ok (.lload 4, 2) := by decide +kernel
theorem d9_access_132 : decode b9_access 132 = .ok (.bipush 8, 2) := by decide +kernel
theorem d9_access_134 : decode b9_access 134 = .ok (.iload 10, 2) := by decide +kernel
theorem d9_access_136 : decode b9_access 136 = .ok (.imul, 1) := by decide +kernel
theorem d9_access_137 : decode b9_access 137 = .ok (.lshr, 1) := by decide +kernel
theorem d9_access_138 : decode b9_access 138 = .ok (.l2i, 1) := by decide +kernel
theorem d9_access_139 : decode b9_access 139 = .ok (.sipush 255, 3) := by decide +kernel
theorem d9_access_142 : decode b9_access 142 = .ok (.iand, 1) := by decide +kernel
theorem d9_access_143 : decode b9_access 143 = .ok (.iastore, 1) := by decide +kernel
theorem d9_access_144 : decode b9_access 144 = .ok (.goto 19, 3) := by decide +kernel
theorem d9_access_147 : decode b9_access 147 = .ok (.lload 8, 2) := by decide +kernel
theorem d9_access_149 : decode b9_access 149 = .ok (.bipush 8, 2) := by decide +kernel
theorem d9_access_151 : decode b9_access 151 = .ok (.lshl, 1) := by decide +kernel
theorem d9_access_152 : decode b9_access 152 = .ok (.aload_n 0, 1) := by decide +kernel
theorem d9_access_153 : decode b9_access 153 = .ok (.getfield 31, 3) := by decide +kernel
theorem d9_access_156 : decode b9_access 156 = .ok (.iload 11, 2) := by decide +kernel
theorem d9_access_158 : decode b9_access 158 = .ok (.iaload, 1) := by decide +kernel
theorem d9_access_159 : decode b9_access 159 = .ok (.i2l, 1) := by decide +kernel
theorem d9_access_160 : decode b9_access 160 = .ok (.lor, 1) := by decide +kernel
theorem d9_access_161 : decode b9_access 161 = .ok (.lstore 8, 2) := by decide +kernel
theorem d9_access_163 : decode b9_access 163 = .ok (.iinc 10 (-1), 3) := by decide +kernel
theorem d9_access_166 : decode b9_access 166 = .ok (.goto (-61), 3) := by decide +kernel
theorem d9_access_169 : decode b9_access 169 = .ok (.iload_n 1, 1) := by decide +kernel
theorem d9_access_170 : decode b9_access 170 = .ok (.bipush 26, 2) := by decide +kernel
theorem d9_access_172 : decode b9_access 172 = .ok (.if_icmp .ge 23, 3) := by decide +kernel
theorem d9_access_175 : decode b9_access 175 = .ok (.aload_n 0, 1) := by decide +kernel
theorem d9_access_176 : decode b9_access 176 = .ok (.iload_n 1, 1) := by decide +kernel
theorem d9_access_177 : decode b9_access 177 = .ok (.bipush 23, 2) := by decide +kernel
theorem d9_access_179 : decode b9_access 179 = .ok (.if_icmp .ne 10, 3) := by decide +kernel
theorem d9_access_182 : decode b9_access 182 = .ok (.lload 8, 2) := by decide +kernel
theorem d9_access_184 : decode b9_access 184 = .ok (.l2i, 1) := by decide +kernel
theorem d9_access_185 : decode b9_access 185 = .ok (.i2l, 1) := by decide +kernel
theorem d9_access_186 : decode b9_access 186 = .ok (.goto 5, 3) := by decide +kernel
theorem d9_access_189 : decode b9_access 189 = .ok (.lload 8, 2) := by decide +kernel
theorem d9_access_191 : decode b9_access 191 = .ok (.dconst 0, 1) := by decide +kernel
theorem d9_access_192 : decode b9_access 192 = .ok (.invokevirtual 215, 3) := by decide +kernel
theorem d9_access_195 : decode b9_access 195 = .ok (.return_, 1) := by decide +kernel
theorem d9_bits_0 : decode b9_bits 0 = .ok (.lload_n 3, 1) := by decide +kernel
theorem d9_bits_1 : decode b9_bits 1 = .ok (.l2i, 1) := by decide +kernel
theorem d9_bits_2 : decode b9_bits 2 = .ok (.iload 5, 2) := by decide +kernel
theorem d9_bits_4 : decode b9_bits 4 = .ok (.iconst 1, 1) := by decide +kernel
theorem d9_bits_5 : decode b9_bits 5 = .ok (.isub, 1) := by decide +kernel
theorem d9_bits_6 : decode b9_bits 6 = .ok (.iand, 1) := by decide +kernel
theorem d9_bits_7 : decode b9_bits 7 = .ok (.istore 6, 2) := by decide +kernel
theorem d9_bits_9 : decode b9_bits 9 = .ok (.iload_n 0, 1) := by decide +kernel
theorem d9_bits_10 : decode b9_bits 10 = .ok (.iconst 5, 1) := by decide +kernel
theorem d9_bits_11 : decode b9_bits 11 = .ok (.if_icmp .ne 7, 3) := by decide +kernel
theorem d9_bits_14 : decode b9_bits 14 = .ok (.lload_n 1, 1) := by decide +kernel
theorem d9_bits_15 : decode b9_bits 15 = .ok (.lload_n 3, 1) := by decide +kernel
theorem d9_bits_16 : decode b9_bits 16 = .ok (.land, 1) := by decide +kernel
theorem d9_bits_17 : decode b9_bits 17 = .ok (.lreturn, 1) := by decide +kernel
theorem d9_bits_18 : decode b9_bits 18 = .ok (.iload_n 0, 1) := by decide +kernel
theorem d9_bits_19 : decode b9_bits 19 = .ok (.bipush 6, 2) := by decide +kernel
theorem d9_bits_21 : decode b9_bits 21 = .ok (.if_icmp .ne 7, 3) := by decide +kernel
theorem d9_bits_24 : decode b9_bits 24 = .ok (.lload_n 1, 1) := by decide +kernel
theorem d9_bits_25 : decode b9_bits 25 = .ok (.lload_n 3, 1) := by decide +kernel
theorem d9_bits_26 : decode b9_bits 26 = .ok (.lor, 1) := by decide +kernel
theorem d9_bits_27 : decode b9_bits 27 = .ok (.lreturn, 1) := by decide +kernel
theorem d9_bits_28 : decode b9_bits 28 = .ok (.iload_n 0, 1) := by decide +kernel
theorem d9_bits_29 : decode b9_bits 29 = .ok (.bipush 7, 2) := by decide +kernel
theorem d9_bits_31 : decode b9_bits 31 = .ok (.if_icmp .ne 7, 3) := by decide +kernel
theorem d9_bits_34 : decode b9_bits 34 = .ok (.lload_n 1, 1) := by decide +kernel
theorem d9_bits_35 : decode b9_bits 35 = .ok (.lload_n 3, 1) := by decide +kernel
theorem d9_bits_36 : decode b9_bits 36 = .ok (.lxor, 1) := by decide +kernel
theorem d9_bits_37 : decode b9_bits 37 = .ok (.lreturn, 1) := by decide +kernel
theorem d9_bits_38 : decode b9_bits 38 = .ok (.iload_n 0, 1) := by decide +kernel
theorem d9_bits_39 : decode b9_bits 39 = .ok (.bipush 8, 2) := by decide +kernel
theorem d9_bits_41 : decode b9_bits 41 = .ok (.if_icmp .ne 8, 3) := by decide +kernel
theorem d9_bits_44 : decode b9_bits 44 = .ok (.lload_n 1, 1) := by decide +kernel
theorem d9_bits_45 : decode b9_bits 45 = .ok (.iload 6, 2) := by decide +kernel
theorem d9_bits_47 : decode b9_bits 47 = .ok (.lshl, 1) := by decide +kernel
theorem d9_bits_48 : decode b9_bits 48 = .ok (.lreturn, 1) := by decide +kernel
theorem d9_bits_49 : decode b9_bits 49 = .ok (.iload_n 0, 1) := by decide +kernel
theorem d9_bits_50 : decode b9_bits 50 = .ok (.bipush 9, 2) := by decide +kernel
theorem d9_bits_52 : decode b9_bits 52 = .ok (.if_icmp .ne 8, 3) := by decide +kernel
theorem d9_bits_55 : decode b9_bits 55 = .ok (.lload_n 1, 1) := by decide +kernel
theorem d9_bits_56 : decode b9_bits 56 = .ok (.iload 6, 2) := by decide +kernel
theorem d9_bits_58 : decode b9_bits 58 = .ok (.lshr, 1) := by decide +kernel
theorem d9_bits_59 : decode b9_bits 59 = .ok (.lreturn, 1) := by decide +kernel
theorem d9_bits_60 : decode b9_bits 60 = .ok (.iload 5, 2) := by decide +kernel
theorem d9_bits_62 : decode b9_bits 62 = .ok (.bipush 64, 2) := by decide +kernel
theorem d9_bits_64 : decode b9_bits 64 = .ok (.if_icmp .ne 10, 3) := by decide +kernel
theorem d9_bits_67 : decode b9_bits 67 = .ok (.lload_n 1, 1) := by decide +kernel
theorem d9_bits_68 : decode b9_bits 68 = .ok (.iload 6, 2) := by decide +kernel
theorem d9_bits_70 : decode b9_bits 70 = .ok (.lushr, 1) := by decide +kernel
theorem d9_bits_71 : decode b9_bits 71 = .ok (.goto 9, 3) := by decide +kernel
theorem d9_bits_74 : decode b9_bits 74 = .ok (.lload_n 1, 1) := by decide +kernel
theorem d9_bits_75 : decode b9_bits 75 = .ok (.l2i, 1) := by decide +kernel
theorem d9_bits_76 : decode b9_bits 76 = .ok (.iload 6, 2) := by decide +kernel
theorem d9_bits_78 : decode b9_bits 78 = .ok (.iushr, 1) := by decide +kernel
theorem d9_bits_79 : decode b9_bits 79 = .ok (.i2l, 1) := by decide +kernel
theorem d9_bits_80 : decode b9_bits 80 = .ok (.lreturn, 1) := by decide +kernel
theorem d9_calculate_0 : decode b9_calculate 0 = .ok (.aload_n 0, 1) := by decide +kernel
theorem d9_calculate_1 : decode b9_calculate 1 = .ok (.dup, 1) := by decide +kernel
theorem d9_calculate_2 : decode b9_calculate 2 = .ok (.getfield 122, 3) := by decide +kernel
theorem d9_calculate_5 : decode b9_calculate 5 = .ok (.iconst 2, 1) := by decide +kernel
theorem d9_calculate_6 : decode b9_calculate 6 = .ok (.isub, 1) := by decide +kernel
theorem d9_calculate_7 : decode b9_calculate 7 = .ok (.putfield 122, 3) := by decide +kernel
theorem d9_calculate_10 : decode b9_calculate 10 = .ok (.aload_n 0, 1) := by decide +kernel
theorem d9_calculate_11 : decode b9_calculate 11 = .ok (.getfield 60, 3) := by decide +kernel
theorem d9_calculate_14 : decode b9_calculate 14 = .ok (.aload_n 0, 1) := by decide +kernel
theorem d9_calculate_15 : decode b9_calculate 15 = .ok (.getfield 122, 3) := by decide +kernel
theorem d9_calculate_18 : decode b9_calculate 18 = .ok (.laload, 1) := by decide +kernel
theorem d9_calculate_19 : decode b9_calculate 19 = .ok (.lstore_n 3, 1) := by decide +kernel
theorem d9_calculate_20 : decode b9_calculate 20 = .ok (.aload_n 0, 1) := by decide +kernel
theorem d9_calculate_21 : decode b9_calculate 21 = .ok (.getfield 60, 3) := by decide +kernel
theorem d9_calculate_24 : decode b9_calculate 24 = .ok (.aload_n 0, 1) := by decide +kernel
theorem d9_calculate_25 : decode b9_calculate 25 = .ok (.getfield 122, 3) := by decide +kernel
theorem d9_calculate_28 : decode b9_calculate 28 = .ok (.iconst 1, 1) := by decide +kernel
theorem d9_calculate_29 : decode b9_calculate 29 = .ok (.iadd, 1) := by decide +kernel
theorem d9_calculate_30 : decode b9_calculate 30 = .ok (.laload, 1) := by decide +kernel
theorem d9_calculate_31 : decode b9_calculate 31 = .ok (.lstore 5, 2) := by decide +kernel
theorem d9_calculate_33 : decode b9_calculate 33 = .ok (.iload_n 1, 1) := by decide +kernel
theorem d9_calculate_34 : decode b9_calculate 34 = .ok (.iconst 3, 1) := by decide +kernel
theorem d9_calculate_35 : decode b9_calculate 35 = .ok (.if_icmp .eq 8, 3) := by decide +kernel
theorem d9_calculate_38 : decode b9_calculate 38 = .ok (.iload_n 1, 1) := by decide +kernel
theorem d9_calculate_39 : decode b9_calculate 39 = .ok (.iconst 4, 1) := by decide +kernel
theorem d9_calculate_40 : decode b9_calculate 40 = .ok (.if_icmp .ne 16, 3) := by decide +kernel
theorem d9_calculate_43 : decode b9_calculate 43 = .ok (.lload 5, 2) := by decide +kernel
theorem d9_calculate_45 : decode b9_calculate 45 = .ok (.lconst 0, 1) := by decide +kernel
theorem d9_calculate_46 : decode b9_calculate 46 = .ok (.lcmp, 1) := by decide +kernel
theorem d9_calculate_47 : decode b9_calculate 47 = .ok (.ifCond .ne 9, 3) := by decide +kernel
theorem d9_calculate_50 : decode b9_calculate 50 = .ok (.aload_n 0, 1) := by decide +kernel
theorem d9_calculate_51 : decode b9_calculate 51 = .ok (.iconst 2, 1) := by decide +kernel
theorem d9_calculate_52 : decode b9_calculate 52 = .ok (.putfield 233, 3) := by decide +kernel
theorem d9_calculate_55 : decode b9_calculate 55 = .ok (.return_, 1) := by decide +kernel
theorem d9_calculate_56 : decode b9_calculate 56 = .ok (.iload_n 1, 1) := by decide +kernel
theorem d9_calculate_57 : decode b9_calculate 57 = .ok (.ifCond .ne 12, 3) := by decide +kernel
theorem d9_calculate_60 : decode b9_calculate 60 = .ok (.lload_n 3, 1) := by decide +kernel
theorem d9_calculate_61 : decode b9_calculate 61 = .ok (.lload 5, 2) := by decide +kernel
theorem d9_calculate_63 : decode b9_calculate 63 = .ok (.ladd, 1) := by decide +kernel
theorem d9_calculate_64 : decode b9_calculate 64 = .ok (.lstore 7, 2) := by decide +kernel
theorem d9_calculate_66 : decode b9_calculate 66 = .ok (.goto 169, 3) := by decide +kernel
theorem d9_calculate_69 : decode b9_calculate 69 = .ok (.iload_n 1, 1) := by decide +kernel
theorem d9_calculate_70 : decode b9_calculate 70 = .ok (.iconst 1, 1) := by decide +kernel
theorem d9_calculate_71 : decode b9_calculate 71 = .ok (.if_icmp .ne 12, 3) := by decide +kernel
theorem d9_calculate_74 : decode b9_calculate 74 = .ok (.lload_n 3, 1) := by decide +kernel
theorem d9_calculate_75 : decode b9_calculate 75 = .ok (.lload 5, 2) := by decide +kernel
theorem d9_calculate_77 : decode b9_calculate 77 = .ok (.lsub, 1) := by decide +kernel
theorem d9_calculate_78 : decode b9_calculate 78 = .ok (.lstore 7, 2) := by decide +kernel
theorem d9_calculate_80 : decode b9_calculate 80 = .ok (.goto 155, 3) := by decide +kernel
theorem d9_calculate_83 : decode b9_calculate 83 = .ok (.iload_n 1, 1) := by decide +kernel
theorem d9_calculate_84 : decode b9_calculate 84 = .ok (.iconst 2, 1) := by decide +kernel
theorem d9_calculate_85 : decode b9_calculate 85 = .ok (.if_icmp .ne 12, 3) := by decide +kernel
theorem d9_calculate_88 : decode b9_calculate 88 = .ok (.lload_n 3, 1) := by decide +kernel
theorem d9_calculate_89 : decode b9_calculate 89 = .ok (.lload 5, 2) := by decide +kernel
theorem d9_calculate_91 : decode b9_calculate 91 = .ok (.lmul, 1) := by decide +kernel
theorem d9_calculate_92 : decode b9_calculate 92 = .ok (.lstore 7, 2) := by decide +kernel
theorem d9_calculate_94 : decode b9_calculate 94 = .ok (.goto 141, 3) := by decide +kernel
theorem d9_calculate_97 : decode b9_calculate 97 = .ok (.iload_n 1, 1) := by decide +kernel
theorem d9_calculate_98 : decode b9_calculate 98 = .ok (.iconst 3, 1) := by decide +kernel
theorem d9_calculate_99 : decode b9_calculate 99 = .ok (.if_icmp .ne 12, 3) := by decide +kernel
theorem d9_calculate_102 : decode b9_calculate 102 = .ok (.lload_n 3, 1) := by decide +kernel
theorem d9_calculate_103 : decode b9_calculate 103 = .ok (.lload 5, 2) := by decide +kernel
theorem d9_calculate_105 : decode b9_calculate 105 = .ok (.ldiv, 1) := by decide +kernel
theorem d9_calculate_106 : decode b9_calculate 106 = .ok (.lstore 7, 2) := by decide +kernel
theorem d9_calculate_108 : decode b9_calculate 108 = .ok (.goto 127, 3) := by decide +kernel
theorem d9_calculate_111 : decode b9_calculate 111 = .ok (.iload_n 1, 1) := by decide +kernel
theorem d9_calculate_112 : decode b9_calculate 112 = .ok (.iconst 4, 1) := by decide +kernel
theorem d9_calculate_113 : decode b9_calculate 113 = .ok (.if_icmp .ne 12, 3) := by decide +kernel
theorem d9_calculate_116 : decode b9_calculate 116 = .ok (.lload_n 3, 1) := by decide +kernel
theorem d9_calculate_117 : decode b9_calculate 117 = .ok (.lload 5, 2) := by decide +kernel
theorem d9_calculate_119 : decode b9_calculate 119 = .ok (.lrem, 1) := by decide +kernel
theorem d9_calculate_120 : decode b9_calculate 120 = .ok (.lstore 7, 2) := by decide +kernel
theorem d9_calculate_122 : decode b9_calculate 122 = .ok (.goto 113, 3) := by decide +kernel
theorem d9_calculate_125 : decode b9_calculate 125 = .ok (.iload_n 1, 1) := by decide +kernel
theorem d9_calculate_126 : decode b9_calculate 126 = .ok (.bipush 11, 2) := by decide +kernel
theorem d9_calculate_128 : decode b9_calculate 128 = .ok (.if_icmp .ge 16, 3) := by decide +kernel
theorem d9_calculate_131 : decode b9_calculate 131 = .ok (.iload_n 1, 1) := by decide +kernel
theorem d9_calculate_132 : decode b9_calculate 132 = .ok (.lload_n 3, 1) := by decide +kernel
theorem d9_calculate_133 : decode b9_calculate 133 = .ok (.lload 5, 2) := by decide +kernel
theorem d9_calculate_135 : decode b9_calculate 135 = .ok (.iload_n 2, 1) := by decide +kernel
theorem d9_calculate_136 : decode b9_calculate 136 = .ok (.invokestatic 241, 3) := by decide +kernel
theorem d9_calculate_139 : decode b9_calculate 139 = .ok (.lstore 7, 2) := by decide +kernel
theorem d9_calculate_141 : decode b9_calculate 141 = .ok (.goto 94, 3) := by decide +kernel
theorem d9_calculate_144 : decode b9_calculate 144 = .ok (.iload_n 1, 1) := by decide +kernel
theorem d9_calculate_145 : decode b9_calculate 145 = .ok (.bipush 11, 2) := by decide +kernel
theorem d9_calculate_147 : decode b9_calculate 147 = .ok (.if_icmp .ne 20, 3) := by decide +kernel
theorem d9_calculate_150 : decode b9_calculate 150 = .ok (.lload_n 3, 1) := by decide +kernel
theorem d9_calculate_151 : decode b9_calculate 151 = .ok (.lload 5, 2) := by decide +kernel
theorem d9_calculate_153 : decode b9_calculate 153 = .ok (.lcmp, 1) := by decide +kernel
theorem d9_calculate_154 : decode b9_calculate 154 = .ok (.ifCond .ne 7, 3) := by decide +kernel
theorem d9_calculate_157 : decode b9_calculate 157 = .ok (.lconst 1, 1) := by decide +kernel
theorem d9_calculate_158 : decode b9_calculate 158 = .ok (.goto 4, 3) := by decide +kernel
theorem d9_calculate_161 : decode b9_calculate 161 = .ok (.lconst 0, 1) := by decide +kernel
theorem d9_calculate_162 : decode b9_calculate 162 = .ok (.lstore 7, 2) := by decide +kernel
theorem d9_calculate_164 : decode b9_calculate 164 = .ok (.goto 71, 3) := by decide +kernel
theorem d9_calculate_167 : decode b9_calculate 167 = .ok (.iload_n 1, 1) := by decide +kernel
theorem d9_calculate_168 : decode b9_calculate 168 = .ok (.bipush 12, 2) := by decide +kernel
theorem d9_calculate_170 : decode b9_calculate 170 = .ok (.if_icmp .ne 20, 3) := by decide +kernel
theorem d9_calculate_173 : decode b9_calculate 173 = .ok (.lload_n 3, 1) := by decide +kernel
theorem d9_calculate_174 : decode b9_calculate 174 = .ok (.lload 5, 2) := by decide +kernel
theorem d9_calculate_176 : decode b9_calculate 176 = .ok (.lcmp, 1) := by decide +kernel
theorem d9_calculate_177 : decode b9_calculate 177 = .ok (.ifCond .eq 7, 3) := by decide +kernel
theorem d9_calculate_180 : decode b9_calculate 180 = .ok (.lconst 1, 1) := by decide +kernel
theorem d9_calculate_181 : decode b9_calculate 181 = .ok (.goto 4, 3) := by decide +kernel
theorem d9_calculate_184 : decode b9_calculate 184 = .ok (.lconst 0, 1) := by decide +kernel
theorem d9_calculate_185 : decode b9_calculate 185 = .ok (.lstore 7, 2) := by decide +kernel
theorem d9_calculate_187 : decode b9_calculate 187 = .ok (.goto 48, 3) := by decide +kernel
theorem d9_calculate_190 : decode b9_calculate 190 = .ok (.iload_n 1, 1) := by decide +kernel
theorem d9_calculate_191 : decode b9_calculate 191 = .ok (.bipush 13, 2) := by decide +kernel
theorem d9_calculate_193 : decode b9_calculate 193 = .ok (.if_icmp .ne 20, 3) := by decide +kernel
theorem d9_calculate_196 : decode b9_calculate 196 = .ok (.lload_n 3, 1) := by decide +kernel
theorem d9_calculate_197 : decode b9_calculate 197 = .ok (.lload 5, 2) := by decide +kernel
theorem d9_calculate_199 : decode b9_calculate 199 = .ok (.lcmp, 1) := by decide +kernel
theorem d9_calculate_200 : decode b9_calculate 200 = .ok (.ifCond .ge 7, 3) := by decide +kernel
theorem d9_calculate_203 : decode b9_calculate 203 = .ok (.lconst 1, 1) := by decide +kernel
theorem d9_calculate_204 : decode b9_calculate 204 = .ok (.goto 4, 3) := by decide +kernel
theorem d9_calculate_207 : decode b9_calculate 207 = .ok (.lconst 0, 1) := by decide +kernel
theorem d9_calculate_208 : decode b9_calculate 208 = .ok (.lstore 7, 2) := by decide +kernel
theorem d9_calculate_210 : decode b9_calculate 210 = .ok (.goto 25, 3) := by decide +kernel
theorem d9_calculate_213 : decode b9_calculate 213 = .ok (.lload_n 3, 1) := by decide +kernel
theorem d9_calculate_214 : decode b9_calculate 214 = .ok (.ldc2_w 245, 3) := by decide +kernel
theorem d9_calculate_217 : decode b9_calculate 217 = .ok (.land, 1) := by decide +kernel
theorem d9_calculate_218 : decode b9_calculate 218 = .ok (.lload 5, 2) := by decide +kernel
theorem d9_calculate_220 : decode b9_calculate 220 = .ok (.ldc2_w 245, 3) := by decide +kernel
theorem d9_calculate_223 : decode b9_calculate 223 = .ok (.land, 1) := by decide +kernel
theorem d9_calculate_224 : decode b9_calculate 224 = .ok (.lcmp, 1) := by decide +kernel
theorem d9_calculate_225 : decode b9_calculate 225 = .ok (.ifCond .ge 7, 3) := by decide +kernel
theorem d9_calculate_228 : decode b9_calculate 228 = .ok (.lconst 1, 1) := by decide +kernel
theorem d9_calculate_229 : decode b9_calculate 229 = .ok (.goto 4, 3) := by decide +kernel
theorem d9_calculate_232 : decode b9_calculate 232 = .ok (.lconst 0, 1) := by decide +kernel
theorem d9_calculate_233 : decode b9_calculate 233 = .ok (.lstore 7, 2) := by decide +kernel
theorem d9_calculate_235 : decode b9_calculate 235 = .ok (.aload_n 0, 1) := by decide +kernel
theorem d9_calculate_236 : decode b9_calculate 236 = .ok (.iload_n 2, 1) := by decide +kernel
theorem d9_calculate_237 : decode b9_calculate 237 = .ok (.bipush 32, 2) := by decide +kernel
theorem d9_calculate_239 : decode b9_calculate 239 = .ok (.if_icmp .ne 10, 3) := by decide +kernel
theorem d9_calculate_242 : decode b9_calculate 242 = .ok (.lload 7, 2) := by decide +kernel
theorem d9_calculate_244 : decode b9_calculate 244 = .ok (.l2i, 1) := by decide +kernel
theorem d9_calculate_245 : decode b9_calculate 245 = .ok (.i2l, 1) := by decide +kernel
theorem d9_calculate_246 : decode b9_calculate 246 = .ok (.goto 5, 3) := by decide +kernel
theorem d9_calculate_249 : decode b9_calculate 249 = .ok (.lload 7, 2) := by decide +kernel
theorem d9_calculate_251 : decode b9_calculate 251 = .ok (.dconst 0, 1) := by decide +kernel
theorem d9_calculate_252 : decode b9_calculate 252 = .ok (.invokevirtual 215, 3) := by decide +kernel
theorem d9_calculate_255 : decode b9_calculate 255 = .ok (.return_, 1) := by decide +kernel
theorem d9_measure_0 : decode b9_measure 0 = .ok (.aload_n 0, 1) := by decide +kernel
theorem d9_measure_1 : decode b9_measure 1 = .ok (.dup, 1) := by decide +kernel
theorem d9_measure_2 : decode b9_measure 2 = .ok (.getfield 122, 3) := by decide +kernel
theorem d9_measure_5 : decode b9_measure 5 = .ok (.iconst 2, 1) := by decide +kernel
theorem d9_measure_6 : decode b9_measure 6 = .ok (.isub, 1) := by decide +kernel
theorem d9_measure_7 : decode b9_measure 7 = .ok (.putfield 122, 3) := by decide +kernel
theorem d9_measure_10 : decode b9_measure 10 = .ok (.aload_n 0, 1) := by decide +kernel
theorem d9_measure_11 : decode b9_measure 11 = .ok (.getfield 63, 3) := by decide +kernel
theorem d9_measure_14 : decode b9_measure 14 = .ok (.aload_n 0, 1) := by decide +kernel
theorem d9_measure_15 : decode b9_measure 15 = .ok (.getfield 122, 3) := by decide +kernel
theorem d9_measure_18 : decode b9_measure 18 = .ok (.daload, 1) := by decide +kernel
theorem d9_measure_19 : decode b9_measure 19 = .ok (.dstore_n 2, 1) := by decide +kernel
theorem d9_measure_20 : decode b9_measure 20 = .ok (.aload_n 0, 1) := by decide +kernel
theorem d9_measure_21 : decode b9_measure 21 = .ok (.getfield 63, 3) := by decide +kernel
theorem d9_measure_24 : decode b9_measure 24 = .ok (.aload_n 0, 1) := by decide +kernel
theorem d9_measure_25 : decode b9_measure 25 = .ok (.getfield 122, 3) := by decide +kernel
theorem d9_measure_28 : decode b9_measure 28 = .ok (.iconst 1, 1) := by decide +kernel
theorem d9_measure_29 : decode b9_measure 29 = .ok (.iadd, 1) := by decide +kernel
theorem d9_measure_30 : decode b9_measure 30 = .ok (.daload, 1) := by decide +kernel
theorem d9_measure_31 : decode b9_measure 31 = .ok (.dstore 4, 2) := by decide +kernel
theorem d9_measure_33 : decode b9_measure 33 = .ok (.iload_n 1, 1) := by decide +kernel
theorem d9_measure_34 : decode b9_measure 34 = .ok (.bipush 74, 2) := by decide +kernel
theorem d9_measure_36 : decode b9_measure 36 = .ok (.if_icmp .eq 9, 3) := by decide +kernel
theorem d9_measure_39 : decode b9_measure 39 = .ok (.iload_n 1, 1) := by decide +kernel
theorem d9_measure_40 : decode b9_measure 40 = .ok (.bipush 75, 2) := by decide +kernel
theorem d9_measure_42 : decode b9_measure 42 = .ok (.if_icmp .ne 37, 3) := by decide +kernel
theorem d9_measure_45 : decode b9_measure 45 = .ok (.aload_n 0, 1) := by decide +kernel
theorem d9_measure_46 : decode b9_measure 46 = .ok (.iload_n 1, 1) := by decide +kernel
theorem d9_measure_47 : decode b9_measure 47 = .ok (.bipush 74, 2) := by decide +kernel
theorem d9_measure_49 : decode b9_measure 49 = .ok (.if_icmp .ne 13, 3) := by decide +kernel
theorem d9_measure_52 : decode b9_measure 52 = .ok (.dload_n 2, 1) := by decide +kernel
theorem d9_measure_53 : decode b9_measure 53 = .ok (.dload 4, 2) := by decide +kernel
theorem d9_measure_55 : decode b9_measure 55 = .ok (.dcmp .l, 1) := by decide +kernel
theorem d9_measure_56 : decode b9_measure 56 = .ok (.ifCond .ne 17, 3) := by decide +kernel
theorem d9_measure_59 : decode b9_measure 59 = .ok (.goto 10, 3) := by decide +kernel
theorem d9_measure_62 : decode b9_measure 62 = .ok (.dload_n 2, 1) := by decide +kernel
theorem d9_measure_63 : decode b9_measure 63 = .ok (.dload 4, 2) := by decide +kernel
theorem d9_measure_65 : decode b9_measure 65 = .ok (.dcmp .g, 1) := by decide +kernel
theorem d9_measure_66 : decode b9_measure 66 = .ok (.ifCond .ge 7, 3) := by decide +kernel
theorem d9_measure_69 : decode b9_measure 69 = .ok (.lconst 1, 1) := by decide +kernel
theorem d9_measure_70 : decode b9_measure 70 = .ok (.goto 4, 3) := by decide +kernel
theorem d9_measure_73 : decode b9_measure 73 = .ok (.lconst 0, 1) := by decide +kernel
theorem d9_measure_74 : decode b9_measure 74 = .ok (.dconst 0, 1) := by decide +kernel
theorem d9_measure_75 : decode b9_measure 75 = .ok (.invokevirtual 215, 3) := by decide +kernel
theorem d9_measure_78 : decode b9_measure 78 = .ok (.return_, 1) := by decide +kernel
theorem d9_measure_79 : decode b9_measure 79 = .ok (.iload_n 1, 1) := by decide +kernel
theorem d9_measure_80 : decode b9_measure 80 = .ok (.bipush 73, 2) := by decide +kernel
theorem d9_measure_82 : decode b9_measure 82 = .ok (.if_icmp .ne 16, 3) := by decide +kernel
theorem d9_measure_85 : decode b9_measure 85 = .ok (.dload 4, 2) := by decide +kernel
theorem d9_measure_87 : decode b9_measure 87 = .ok (.dconst 0, 1) := by decide +kernel
theorem d9_measure_88 : decode b9_measure 88 = .ok (.dcmp .l, 1) := by decide +kernel
theorem d9_measure_89 : decode b9_measure 89 = .ok (.ifCond .ne 9, 3) := by decide +kernel
theorem d9_measure_92 : decode b9_measure 92 = .ok (.aload_n 0, 1) := by decide +kernel
theorem d9_measure_93 : decode b9_measure 93 = .ok (.iconst 2, 1) := by decide +kernel
theorem d9_measure_94 : decode b9_measure 94 = .ok (.putfield 233, 3) := by decide +kernel
theorem d9_measure_97 : decode b9_measure 97 = .ok (.return_, 1) := by decide +kernel
theorem d9_measure_98 : decode b9_measure 98 = .ok (.iload_n 1, 1) := by decide +kernel
theorem d9_measure_99 : decode b9_measure 99 = .ok (.bipush 70, 2) := by decide +kernel
theorem d9_measure_101 : decode b9_measure 101 = .ok (.if_icmp .ne 10, 3) := by decide +kernel
theorem d9_measure_104 : decode b9_measure 104 = .ok (.dload_n 2, 1) := by decide +kernel
theorem d9_measure_105 : decode b9_measure 105 = .ok (.dload 4, 2) := by decide +kernel
theorem d9_measure_107 : decode b9_measure 107 = .ok (.dadd, 1) := by decide +kernel
theorem d9_measure_108 : decode b9_measure 108 = .ok (.goto 33, 3) := by decide +kernel
theorem d9_measure_111 : decode b9_measure 111 = .ok (.iload_n 1, 1) := by decide +kernel
theorem d9_measure_112 : decode b9_measure 112 = .ok (.bipush 71, 2) := by decide +kernel
theorem d9_measure_114 : decode b9_measure 114 = .ok (.if_icmp .ne 10, 3) := by decide +kernel
theorem d9_measure_117 : decode b9_measure 117 = .ok (.dload_n 2, 1) := by decide +kernel
theorem d9_measure_118 : decode b9_measure 118 = .ok (.dload 4, 2) := by decide +kernel
theorem d9_measure_120 : decode b9_measure 120 = .ok (.dsub, 1) := by decide +kernel
theorem d9_measure_121 : decode b9_measure 121 = .ok (.goto 20, 3) := by decide +kernel
theorem d9_measure_124 : decode b9_measure 124 = .ok (.iload_n 1, 1) := by decide +kernel
theorem d9_measure_125 : decode b9_measure 125 = .ok (.bipush 72, 2) := by decide +kernel
theorem d9_measure_127 : decode b9_measure 127 = .ok (.if_icmp .ne 10, 3) := by decide +kernel
theorem d9_measure_130 : decode b9_measure 130 = .ok (.dload_n 2, 1) := by decide +kernel
theorem d9_measure_131 : decode b9_measure 131 = .ok (.dload 4, 2) := by decide +kernel
theorem d9_measure_133 : decode b9_measure 133 = .ok (.dmul, 1) := by decide +kernel
theorem d9_measure_134 : decode b9_measure 134 = .ok (.goto 7, 3) := by decide +kernel
theorem d9_measure_137 : decode b9_measure 137 = .ok (.dload_n 2, 1) := by decide +kernel
theorem d9_measure_138 : decode b9_measure 138 = .ok (.dload 4, 2) := by decide +kernel
theorem d9_measure_140 : decode b9_measure 140 = .ok (.ddiv, 1) := by decide +kernel
theorem d9_measure_141 : decode b9_measure 141 = .ok (.dstore 6, 2) := by decide +kernel
theorem d9_measure_143 : decode b9_measure 143 = .ok (.dload 6, 2) := by decide +kernel
theorem d9_measure_145 : decode b9_measure 145 = .ok (.ldc2_w 247, 3) := by decide +kernel
theorem d9_measure_148 : decode b9_measure 148 = .ok (.dcmp .l, 1) := by decide +kernel
theorem d9_measure_149 : decode b9_measure 149 = .ok (.ifCond .gt 12, 3) := by decide +kernel
theorem d9_measure_152 : decode b9_measure 152 = .ok (.dload 6, 2) := by decide +kernel
theorem d9_measure_154 : decode b9_measure 154 = .ok (.ldc2_w 249, 3) := by decide +kernel
theorem d9_measure_157 : decode b9_measure 157 = .ok (.dcmp .g, 1) := by decide +kernel
theorem d9_measure_158 : decode b9_measure 158 = .ok (.ifCond .ge 11, 3) := by decide +kernel
theorem d9_measure_161 : decode b9_measure 161 = .ok (.aload_n 0, 1) := by decide +kernel
theorem d9_measure_162 : decode b9_measure 162 = .ok (.iconst 5, 1) := by decide +kernel
theorem d9_measure_163 : decode b9_measure 163 = .ok (.putfield 233, 3) := by decide +kernel
theorem d9_measure_166 : decode b9_measure 166 = .ok (.goto 10, 3) := by decide +kernel
theorem d9_measure_169 : decode b9_measure 169 = .ok (.aload_n 0, 1) := by decide +kernel
theorem d9_measure_170 : decode b9_measure 170 = .ok (.lconst 0, 1) := by decide +kernel
theorem d9_measure_171 : decode b9_measure 171 = .ok (.dload 6, 2) := by decide +kernel
theorem d9_measure_173 : decode b9_measure 173 = .ok (.invokevirtual 215, 3) := by decide +kernel
theorem d9_measure_176 : decode b9_measure 176 = .ok (.return_, 1) := by decide +kernel
theorem d9_turn_0 : decode b9_turn 0 = .ok (.aload_n 0, 1) := by decide +kernel
theorem d9_turn_1 : decode b9_turn 1 = .ok (.dup, 1) := by decide +kernel
theorem d9_turn_2 : decode b9_turn 2 = .ok (.getfield 122, 3) := by decide +kernel
theorem d9_turn_5 : decode b9_turn 5 = .ok (.iconst 1, 1) := by decide +kernel
theorem d9_turn_6 : decode b9_turn 6 = .ok (.isub, 1) := by decide +kernel
theorem d9_turn_7 : decode b9_turn 7 = .ok (.putfield 122, 3) := by decide +kernel
theorem d9_turn_10 : decode b9_turn 10 = .ok (.aload_n 0, 1) := by decide +kernel
theorem d9_turn_11 : decode b9_turn 11 = .ok (.getfield 60, 3) := by decide +kernel
theorem d9_turn_14 : decode b9_turn 14 = .ok (.aload_n 0, 1) := by decide +kernel
theorem d9_turn_15 : decode b9_turn 15 = .ok (.getfield 122, 3) := by decide +kernel
theorem d9_turn_18 : decode b9_turn 18 = .ok (.laload, 1) := by decide +kernel
theorem d9_turn_19 : decode b9_turn 19 = .ok (.lstore_n 2, 1) := by decide +kernel
theorem d9_turn_20 : decode b9_turn 20 = .ok (.aload_n 0, 1) := by decide +kernel
theorem d9_turn_21 : decode b9_turn 21 = .ok (.getfield 63, 3) := by decide +kernel
theorem d9_turn_24 : decode b9_turn 24 = .ok (.aload_n 0, 1) := by decide +kernel
theorem d9_turn_25 : decode b9_turn 25 = .ok (.getfield 122, 3) := by decide +kernel
theorem d9_turn_28 : decode b9_turn 28 = .ok (.daload, 1) := by decide +kernel
theorem d9_turn_29 : decode b9_turn 29 = .ok (.dstore 4, 2) := by decide +kernel
theorem d9_turn_31 : decode b9_turn 31 = .ok (.iload_n 1, 1) := by decide +kernel
theorem d9_turn_32 : decode b9_turn 32 = .ok (.bipush 45, 2) := by decide +kernel
theorem d9_turn_34 : decode b9_turn 34 = .ok (.if_icmp .eq 9, 3) := by decide +kernel
theorem d9_turn_37 : decode b9_turn 37 = .ok (.iload_n 1, 1) := by decide +kernel
theorem d9_turn_38 : decode b9_turn 38 = .ok (.bipush 64, 2) := by decide +kernel
theorem d9_turn_40 : decode b9_turn 40 = .ok (.if_icmp .ne 22, 3) := by decide +kernel
theorem d9_turn_43 : decode b9_turn 43 = .ok (.aload_n 0, 1) := by decide +kernel
theorem d9_turn_44 : decode b9_turn 44 = .ok (.lload_n 2, 1) := by decide +kernel
theorem d9_turn_45 : decode b9_turn 45 = .ok (.lconst 0, 1) := by decide +kernel
theorem d9_turn_46 : decode b9_turn 46 = .ok (.lcmp, 1) := by decide +kernel
theorem d9_turn_47 : decode b9_turn 47 = .ok (.ifCond .ne 7, 3) := by decide +kernel
theorem d9_turn_50 : decode b9_turn 50 = .ok (.lconst 1, 1) := by decide +kernel
theorem d9_turn_51 : decode b9_turn 51 = .ok (.goto 4, 3) := by decide +kernel
theorem d9_turn_54 : decode b9_turn 54 = .ok (.lconst 0, 1) := by decide +kernel
theorem d9_turn_55 : decode b9_turn 55 = .ok (.dconst 0, 1) := by decide +kernel
theorem d9_turn_56 : decode b9_turn 56 = .ok (.invokevirtual 215, 3) := by decide +kernel
theorem d9_turn_59 : decode b9_turn 59 = .ok (.goto 129, 3) := by decide +kernel
theorem d9_turn_62 : decode b9_turn 62 = .ok (.iload_n 1, 1) := by decide +kernel
theorem d9_turn_63 : decode b9_turn 63 = .ok (.bipush 76, 2) := by decide +kernel
theorem d9_turn_65 : decode b9_turn 65 = .ok (.if_icmp .ne 15, 3) := by decide +kernel
theorem d9_turn_68 : decode b9_turn 68 = .ok (.aload_n 0, 1) := by decide +kernel
theorem d9_turn_69 : decode b9_turn 69 = .ok (.lconst 0, 1) := by decide +kernel
theorem d9_turn_70 : decode b9_turn 70 = .ok (.dconst 0, 1) := by decide +kernel
theorem d9_turn_71 : decode b9_turn 71 = .ok (.dload 4, 2) := by decide +kernel
theorem d9_turn_73 : decode b9_turn 73 = .ok (.dsub, 1) := by decide +kernel
theorem d9_turn_74 : decode b9_turn 74 = .ok (.invokevirtual 215, 3) := by decide +kernel
theorem d9_turn_77 : decode b9_turn 77 = .ok (.goto 111, 3) := by decide +kernel
theorem d9_turn_80 : decode b9_turn 80 = .ok (.iload_n 1, 1) := by decide +kernel
theorem d9_turn_81 : decode b9_turn 81 = .ok (.bipush 80, 2) := by decide +kernel
theorem d9_turn_83 : decode b9_turn 83 = .ok (.if_icmp .ne 14, 3) := by decide +kernel
theorem d9_turn_86 : decode b9_turn 86 = .ok (.aload_n 0, 1) := by decide +kernel
theorem d9_turn_87 : decode b9_turn 87 = .ok (.lload_n 2, 1) := by decide +kernel
theorem d9_turn_88 : decode b9_turn 88 = .ok (.l2i, 1) := by decide +kernel
theorem d9_turn_89 : decode b9_turn 89 = .ok (.i2l, 1) := by decide +kernel
theorem d9_turn_90 : decode b9_turn 90 = .ok (.dconst 0, 1) := by decide +kernel
theorem d9_turn_91 : decode b9_turn 91 = .ok (.invokevirtual 215, 3) := by decide +kernel
theorem d9_turn_94 : decode b9_turn 94 = .ok (.goto 94, 3) := by decide +kernel
theorem d9_turn_97 : decode b9_turn 97 = .ok (.iload_n 1, 1) := by decide +kernel
theorem d9_turn_98 : decode b9_turn 98 = .ok (.bipush 81, 2) := by decide +kernel
theorem d9_turn_100 : decode b9_turn 100 = .ok (.if_icmp .ne 12, 3) := by decide +kernel
theorem d9_turn_103 : decode b9_turn 103 = .ok (.aload_n 0, 1) := by decide +kernel
theorem d9_turn_104 : decode b9_turn 104 = .ok (.lload_n 2, 1) := by decide +kernel
theorem d9_turn_105 : decode b9_turn 105 = .ok (.dconst 0, 1) := by decide +kernel
theorem d9_turn_106 : decode b9_turn 106 = .ok (.invokevirtual 215, 3) := by decide +kernel
theorem d9_turn_109 : decode b9_turn 109 = .ok (.goto 79, 3) := by decide +kernel
theorem d9_turn_112 : decode b9_turn 112 = .ok (.iload_n 1, 1) := by decide +kernel
theorem d9_turn_113 : decode b9_turn 113 = .ok (.bipush 82, 2) := by decide +kernel
theorem d9_turn_115 : decode b9_turn 115 = .ok (.if_icmp .eq 9, 3) := by decide +kernel
theorem d9_turn_118 : decode b9_turn 118 = .ok (.iload_n 1, 1) := by decide +kernel
theorem d9_turn_119 : decode b9_turn 119 = .ok (.bipush 84, 2) := by decide +kernel
theorem d9_turn_121 : decode b9_turn 121 = .ok (.if_icmp .ne 13, 3) := by decide +kernel
theorem d9_turn_124 : decode b9_turn 124 = .ok (.aload_n 0, 1) := by decide +kernel
theorem d9_turn_125 : decode b9_turn 125 = .ok (.lconst 0, 1) := by decide +kernel
theorem d9_turn_126 : decode b9_turn 126 = .ok (.lload_n 2, 1) := by decide +kernel
theorem d9_turn_127 : decode b9_turn 127 = .ok (.l2d, 1) := by decide +kernel
theorem d9_turn_128 : decode b9_turn 128 = .ok (.invokevirtual 215, 3) := by decide +kernel
theorem d9_turn_131 : decode b9_turn 131 = .ok (.goto 57, 3) := by decide +kernel
theorem d9_turn_134 : decode b9_turn 134 = .ok (.iload_n 1, 1) := by decide +kernel
theorem d9_turn_135 : decode b9_turn 135 = .ok (.bipush 85, 2) := by decide +kernel
theorem d9_turn_137 : decode b9_turn 137 = .ok (.if_icmp .ne 16, 3) := by decide +kernel
theorem d9_turn_140 : decode b9_turn 140 = .ok (.aload_n 0, 1) := by decide +kernel
theorem d9_turn_141 : decode b9_turn 141 = .ok (.lload_n 2, 1) := by decide +kernel
theorem d9_turn_142 : decode b9_turn 142 = .ok (.ldc2_w 245, 3) := by decide +kernel
theorem d9_turn_145 : decode b9_turn 145 = .ok (.land, 1) := by decide +kernel
theorem d9_turn_146 : decode b9_turn 146 = .ok (.dconst 0, 1) := by decide +kernel
theorem d9_turn_147 : decode b9_turn 147 = .ok (.invokevirtual 215, 3) := by decide +kernel
theorem d9_turn_150 : decode b9_turn 150 = .ok (.goto 38, 3) := by decide +kernel
theorem d9_turn_153 : decode b9_turn 153 = .ok (.dload 4, 2) := by decide +kernel
theorem d9_turn_155 : decode b9_turn 155 = .ok (.ldc2_w 251, 3) := by decide +kernel
theorem d9_turn_158 : decode b9_turn 158 = .ok (.dcmp .l, 1) := by decide +kernel
theorem d9_turn_159 : decode b9_turn 159 = .ok (.ifCond .le 24, 3) := by decide +kernel
theorem d9_turn_162 : decode b9_turn 162 = .ok (.dload 4, 2) := by decide +kernel
theorem d9_turn_164 : decode b9_turn 164 = .ok (.ldc2_w 253, 3) := by decide +kernel
theorem d9_turn_167 : decode b9_turn 167 = .ok (.dcmp .g, 1) := by decide +kernel
theorem d9_turn_168 : decode b9_turn 168 = .ok (.ifCond .ge 15, 3) := by decide +kernel
theorem d9_turn_171 : decode b9_turn 171 = .ok (.aload_n 0, 1) := by decide +kernel
theorem d9_turn_172 : decode b9_turn 172 = .ok (.dload 4, 2) := by decide +kernel
theorem d9_turn_174 : decode b9_turn 174 = .ok (.d2i, 1) := by decide +kernel
theorem d9_turn_175 : decode b9_turn 175 = .ok (.i2l, 1) := by decide +kernel
theorem d9_turn_176 : decode b9_turn 176 = .ok (.dconst 0, 1) := by decide +kernel
theorem d9_turn_177 : decode b9_turn 177 = .ok (.invokevirtual 215, 3) := by decide +kernel
theorem d9_turn_180 : decode b9_turn 180 = .ok (.goto 8, 3) := by decide +kernel
theorem d9_turn_183 : decode b9_turn 183 = .ok (.aload_n 0, 1) := by decide +kernel
theorem d9_turn_184 : decode b9_turn 184 = .ok (.iconst 5, 1) := by decide +kernel
theorem d9_turn_185 : decode b9_turn 185 = .ok (.putfield 233, 3) := by decide +kernel
theorem d9_turn_188 : decode b9_turn 188 = .ok (.return_, 1) := by decide +kernel
theorem d9_plain_0 : decode b9_plain 0 = .ok (.iload_n 1, 1) := by decide +kernel
theorem d9_plain_1 : decode b9_plain 1 = .ok (.bipush 20, 2) := by decide +kernel
theorem d9_plain_3 : decode b9_plain 3 = .ok (.if_icmp .lt 26, 3) := by decide +kernel
theorem d9_plain_6 : decode b9_plain 6 = .ok (.iload_n 1, 1) := by decide +kernel
theorem d9_plain_7 : decode b9_plain 7 = .ok (.bipush 22, 2) := by decide +kernel
theorem d9_plain_9 : decode b9_plain 9 = .ok (.if_icmp .gt 20, 3) := by decide +kernel
theorem d9_plain_12 : decode b9_plain 12 = .ok (.aload_n 0, 1) := by decide +kernel
theorem d9_plain_13 : decode b9_plain 13 = .ok (.iload_n 2, 1) := by decide +kernel
theorem d9_plain_14 : decode b9_plain 14 = .ok (.i2b, 1) := by decide +kernel
theorem d9_plain_15 : decode b9_plain 15 = .ok (.i2l, 1) := by decide +kernel
theorem d9_plain_16 : decode b9_plain 16 = .ok (.iload_n 2, 1) := by decide +kernel
theorem d9_plain_17 : decode b9_plain 17 = .ok (.i2b, 1) := by decide +kernel
theorem d9_plain_18 : decode b9_plain 18 = .ok (.i2d, 1) := by decide +kernel
theorem d9_plain_19 : decode b9_plain 19 = .ok (.ldc2_w 199, 3) := by decide +kernel
theorem d9_plain_22 : decode b9_plain 22 = .ok (.dmul, 1) := by decide +kernel
theorem d9_plain_23 : decode b9_plain 23 = .ok (.invokevirtual 215, 3) := by decide +kernel
theorem d9_plain_26 : decode b9_plain 26 = .ok (.goto 87, 3) := by decide +kernel
theorem d9_plain_29 : decode b9_plain 29 = .ok (.iload_n 1, 1) := by decide +kernel
theorem d9_plain_30 : decode b9_plain 30 = .ok (.bipush 28, 2) := by decide +kernel
theorem d9_plain_32 : decode b9_plain 32 = .ok (.if_icmp .gt 12, 3) := by decide +kernel
theorem d9_plain_35 : decode b9_plain 35 = .ok (.aload_n 0, 1) := by decide +kernel
theorem d9_plain_36 : decode b9_plain 36 = .ok (.iload_n 1, 1) := by decide +kernel
theorem d9_plain_37 : decode b9_plain 37 = .ok (.iload_n 2, 1) := by decide +kernel
theorem d9_plain_38 : decode b9_plain 38 = .ok (.invokevirtual 255, 3) := by decide +kernel
theorem d9_plain_41 : decode b9_plain 41 = .ok (.goto 72, 3) := by decide +kernel
theorem d9_plain_44 : decode b9_plain 44 = .ok (.iload_n 1, 1) := by decide +kernel
theorem d9_plain_45 : decode b9_plain 45 = .ok (.bipush 45, 2) := by decide +kernel
theorem d9_plain_47 : decode b9_plain 47 = .ok (.if_icmp .eq 15, 3) := by decide +kernel
theorem d9_plain_50 : decode b9_plain 50 = .ok (.iload_n 1, 1) := by decide +kernel
theorem d9_plain_51 : decode b9_plain 51 = .ok (.bipush 64, 2) := by decide +kernel
theorem d9_plain_53 : decode b9_plain 53 = .ok (.if_icmp .eq 9, 3) := by decide +kernel
theorem d9_plain_56 : decode b9_plain 56 = .ok (.iload_n 1, 1) := by decide +kernel
theorem d9_plain_57 : decode b9_plain 57 = .ok (.bipush 76, 2) := by decide +kernel
theorem d9_plain_59 : decode b9_plain 59 = .ok (.if_icmp .lt 11, 3) := by decide +kernel
theorem d9_plain_62 : decode b9_plain 62 = .ok (.aload_n 0, 1) := by decide +kernel
theorem d9_plain_63 : decode b9_plain 63 = .ok (.iload_n 1, 1) := by decide +kernel
theorem d9_plain_64 : decode b9_plain 64 = .ok (.invokevirtual 258, 3) := by decide +kernel
theorem d9_plain_67 : decode b9_plain 67 = .ok (.goto 46, 3) := by decide +kernel
theorem d9_plain_70 : decode b9_plain 70 = .ok (.iload_n 1, 1) := by decide +kernel
theorem d9_plain_71 : decode b9_plain 71 = .ok (.bipush 50, 2) := by decide +kernel
theorem d9_plain_73 : decode b9_plain 73 = .ok (.if_icmp .ge 16, 3) := by decide +kernel
theorem d9_plain_76 : decode b9_plain 76 = .ok (.aload_n 0, 1) := by decide +kernel
theorem d9_plain_77 : decode b9_plain 77 = .ok (.iload_n 1, 1) := by decide +kernel
theorem d9_plain_78 : decode b9_plain 78 = .ok (.bipush 30, 2) := by decide +kernel
theorem d9_plain_80 : decode b9_plain 80 = .ok (.isub, 1) := by decide +kernel
theorem d9_plain_81 : decode b9_plain 81 = .ok (.bipush 32, 2) := by decide +kernel
theorem d9_plain_83 : decode b9_plain 83 = .ok (.invokevirtual 261, 3) := by decide +kernel
theorem d9_plain_86 : decode b9_plain 86 = .ok (.goto 27, 3) := by decide +kernel
theorem d9_plain_89 : decode b9_plain 89 = .ok (.iload_n 1, 1) := by decide +kernel
theorem d9_plain_90 : decode b9_plain 90 = .ok (.bipush 65, 2) := by decide +kernel
theorem d9_plain_92 : decode b9_plain 92 = .ok (.if_icmp .ge 16, 3) := by decide +kernel
theorem d9_plain_95 : decode b9_plain 95 = .ok (.aload_n 0, 1) := by decide +kernel
theorem d9_plain_96 : decode b9_plain 96 = .ok (.iload_n 1, 1) := by decide +kernel
theorem d9_plain_97 : decode b9_plain 97 = .ok (.bipush 50, 2) := by decide +kernel
theorem d9_plain_99 : decode b9_plain 99 = .ok (.isub, 1) := by decide +kernel
theorem d9_plain_100 : decode b9_plain 100 = .ok (.bipush 64, 2) := by decide +kernel
theorem d9_plain_102 : decode b9_plain 102 = .ok (.invokevirtual 261, 3) := by decide +kernel
theorem d9_plain_105 : decode b9_plain 105 = .ok (.goto 8, 3) := by decide +kernel
theorem d9_plain_108 : decode b9_plain 108 = .ok (.aload_n 0, 1) := by decide +kernel
theorem d9_plain_109 : decode b9_plain 109 = .ok (.iload_n 1, 1) := by decide +kernel
theorem d9_plain_110 : decode b9_plain 110 = .ok (.invokevirtual 264, 3) := by decide +kernel
theorem d9_plain_113 : decode b9_plain 113 = .ok (.return_, 1) := by decide +kernel
theorem d9_select_0 : decode b9_select 0 = .ok (.aload_n 0, 1) := by decide +kernel
theorem d9_select_1 : decode b9_select 1 = .ok (.invokevirtual 226, 3) := by decide +kernel
theorem d9_select_4 : decode b9_select 4 = .ok (.istore_n 1, 1) := by decide +kernel
theorem d9_select_5 : decode b9_select 5 = .ok (.aload_n 0, 1) := by decide +kernel
theorem d9_select_6 : decode b9_select 6 = .ok (.dup, 1) := by decide +kernel
theorem d9_select_7 : decode b9_select 7 = .ok (.getfield 122, 3) := by decide +kernel
theorem d9_select_10 : decode b9_select 10 = .ok (.iconst 1, 1) := by decide +kernel
theorem d9_select_11 : decode b9_select 11 = .ok (.isub, 1) := by decide +kernel
theorem d9_select_12 : decode b9_select 12 = .ok (.putfield 122, 3) := by decide +kernel
theorem d9_select_15 : decode b9_select 15 = .ok (.iload_n 1, 1) := by decide +kernel
theorem d9_select_16 : decode b9_select 16 = .ok (.ifCond .eq 4, 3) := by decide +kernel
theorem d9_select_19 : decode b9_select 19 = .ok (.return_, 1) := by decide +kernel
theorem d9_select_20 : decode b9_select 20 = .ok (.aload_n 0, 1) := by decide +kernel
theorem d9_select_21 : decode b9_select 21 = .ok (.getfield 60, 3) := by decide +kernel
theorem d9_select_24 : decode b9_select 24 = .ok (.aload_n 0, 1) := by decide +kernel
theorem d9_select_25 : decode b9_select 25 = .ok (.getfield 122, 3) := by decide +kernel
theorem d9_select_28 : decode b9_select 28 = .ok (.iconst 1, 1) := by decide +kernel
theorem d9_select_29 : decode b9_select 29 = .ok (.isub, 1) := by decide +kernel
theorem d9_select_30 : decode b9_select 30 = .ok (.aload_n 0, 1) := by decide +kernel
theorem d9_select_31 : decode b9_select 31 = .ok (.getfield 60, 3) := by decide +kernel
theorem d9_select_34 : decode b9_select 34 = .ok (.aload_n 0, 1) := by decide +kernel
theorem d9_select_35 : decode b9_select 35 = .ok (.getfield 122, 3) := by decide +kernel
theorem d9_select_38 : decode b9_select 38 = .ok (.laload, 1) := by decide +kernel
theorem d9_select_39 : decode b9_select 39 = .ok (.lastore, 1) := by decide +kernel
theorem d9_select_40 : decode b9_select 40 = .ok (.aload_n 0, 1) := by decide +kernel
theorem d9_select_41 : decode b9_select 41 = .ok (.getfield 63, 3) := by decide +kernel
theorem d9_select_44 : decode b9_select 44 = .ok (.aload_n 0, 1) := by decide +kernel
theorem d9_select_45 : decode b9_select 45 = .ok (.getfield 122, 3) := by decide +kernel
theorem d9_select_48 : decode b9_select 48 = .ok (.iconst 1, 1) := by decide +kernel
theorem d9_select_49 : decode b9_select 49 = .ok (.isub, 1) := by decide +kernel
theorem d9_select_50 : decode b9_select 50 = .ok (.aload_n 0, 1) := by decide +kernel
theorem d9_select_51 : decode b9_select 51 = .ok (.getfield 63, 3) := by decide +kernel
theorem d9_select_54 : decode b9_select 54 = .ok (.aload_n 0, 1) := by decide +kernel
theorem d9_select_55 : decode b9_select 55 = .ok (.getfield 122, 3) := by decide +kernel
theorem d9_select_58 : decode b9_select 58 = .ok (.daload, 1) := by decide +kernel
theorem d9_select_59 : decode b9_select 59 = .ok (.dastore, 1) := by decide +kernel
theorem d9_select_60 : decode b9_select 60 = .ok (.return_, 1) := by decide +kernel
theorem d9_moves_0 : decode b9_moves 0 = .ok (.iload_n 2, 1) := by decide +kernel
theorem d9_moves_1 : decode b9_moves 1 = .ok (.bipush 6, 2) := by decide +kernel
theorem d9_moves_3 : decode b9_moves 3 = .ok (.if_icmp .ne 53, 3) := by decide +kernel
theorem d9_moves_6 : decode b9_moves 6 = .ok (.aload_n 0, 1) := by decide +kernel
theorem d9_moves_7 : decode b9_moves 7 = .ok (.getfield 128, 3) := by decide +kernel
theorem d9_moves_10 : decode b9_moves 10 = .ok (.iconst 1, 1) := by decide +kernel
theorem d9_moves_11 : decode b9_moves 11 = .ok (.isub, 1) := by decide +kernel
theorem d9_moves_12 : decode b9_moves 12 = .ok (.aload_n 0, 1) := by decide +kernel
theorem d9_moves_13 : decode b9_moves 13 = .ok (.getfield 82, 3) := by decide +kernel
theorem d9_moves_16 : decode b9_moves 16 = .ok (.aload_n 0, 1) := by decide +kernel
theorem d9_moves_17 : decode b9_moves 17 = .ok (.getfield 190, 3) := by decide +kernel
theorem d9_moves_20 : decode b9_moves 20 = .ok (.iconst 1, 1) := by decide +kernel
theorem d9_moves_21 : decode b9_moves 21 = .ok (.isub, 1) := by decide +kernel
theorem d9_moves_22 : decode b9_moves 22 = .ok (.iaload, 1) := by decide +kernel
theorem d9_moves_23 : decode b9_moves 23 = .ok (.if_icmp .ne 10, 3) := by decide +kernel
theorem d9_moves_26 : decode b9_moves 26 = .ok (.aload_n 0, 1) := by decide +kernel
theorem d9_moves_27 : decode b9_moves 27 = .ok (.invokevirtual 219, 3) := by decide +kernel
theorem d9_moves_30 : decode b9_moves 30 = .ok (.goto 193, 3) := by decide +kernel
theorem d9_moves_33 : decode b9_moves 33 = .ok (.aload_n 0, 1) := by decide +kernel
theorem d9_moves_34 : decode b9_moves 34 = .ok (.dup, 1) := by decide +kernel
theorem d9_moves_35 : decode b9_moves 35 = .ok (.getfield 128, 3) := by decide +kernel
theorem d9_moves_38 : decode b9_moves 38 = .ok (.iconst 1, 1) := by decide +kernel
theorem d9_moves_39 : decode b9_moves 39 = .ok (.isub, 1) := by decide +kernel
theorem d9_moves_40 : decode b9_moves 40 = .ok (.putfield 128, 3) := by decide +kernel
theorem d9_moves_43 : decode b9_moves 43 = .ok (.aload_n 0, 1) := by decide +kernel
theorem d9_moves_44 : decode b9_moves 44 = .ok (.dup, 1) := by decide +kernel
theorem d9_moves_45 : decode b9_moves 45 = .ok (.getfield 193, 3) := by decide +kernel
theorem d9_moves_48 : decode b9_moves 48 = .ok (.iconst 1, 1) := by decide +kernel
theorem d9_moves_49 : decode b9_moves 49 = .ok (.iadd, 1) := by decide +kernel
theorem d9_moves_50 : decode b9_moves 50 = .ok (.putfield 193, 3) := by decide +kernel
theorem d9_moves_53 : decode b9_moves 53 = .ok (.goto 170, 3) := by decide +kernel
theorem d9_moves_56 : decode b9_moves 56 = .ok (.iload_n 2, 1) := by decide +kernel
theorem d9_moves_57 : decode b9_moves 57 = .ok (.iconst 5, 1) := by decide +kernel
theorem d9_moves_58 : decode b9_moves 58 = .ok (.if_icmp .ne 34, 3) := by decide +kernel
theorem d9_moves_61 : decode b9_moves 61 = .ok (.aload_n 0, 1) := by decide +kernel
theorem d9_moves_62 : decode b9_moves 62 = .ok (.dup, 1) := by decide +kernel
theorem d9_moves_63 : decode b9_moves 63 = .ok (.getfield 128, 3) := by decide +kernel
theorem d9_moves_66 : decode b9_moves 66 = .ok (.iconst 1, 1) := by decide +kernel
theorem d9_moves_67 : decode b9_moves 67 = .ok (.isub, 1) := by decide +kernel
theorem d9_moves_68 : decode b9_moves 68 = .ok (.putfield 128, 3) := by decide +kernel
theorem d9_moves_71 : decode b9_moves 71 = .ok (.aload_n 0, 1) := by decide +kernel
theorem d9_moves_72 : decode b9_moves 72 = .ok (.aload_n 0, 1) := by decide +kernel
theorem d9_moves_73 : decode b9_moves 73 = .ok (.iload_n 1, 1) := by decide +kernel
theorem d9_moves_74 : decode b9_moves 74 = .ok (.aload_n 0, 1) := by decide +kernel
theorem d9_moves_75 : decode b9_moves 75 = .ok (.getfield 193, 3) := by decide +kernel
theorem d9_moves_78 : decode b9_moves 78 = .ok (.iconst 1, 1) := by decide +kernel
theorem d9_moves_79 : decode b9_moves 79 = .ok (.iadd, 1) := by decide +kernel
theorem d9_moves_80 : decode b9_moves 80 = .ok (.iconst 0, 1) := by decide +kernel
theorem d9_moves_81 : decode b9_moves 81 = .ok (.invokevirtual 222, 3) := by decide +kernel
theorem d9_moves_84 : decode b9_moves 84 = .ok (.iconst 1, 1) := by decide +kernel
theorem d9_moves_85 : decode b9_moves 85 = .ok (.iadd, 1) := by decide +kernel
theorem d9_moves_86 : decode b9_moves 86 = .ok (.putfield 193, 3) := by decide +kernel
theorem d9_moves_89 : decode b9_moves 89 = .ok (.goto 134, 3) := by decide +kernel
theorem d9_moves_92 : decode b9_moves 92 = .ok (.iload_n 2, 1) := by decide +kernel
theorem d9_moves_93 : decode b9_moves 93 = .ok (.iconst 5, 1) := by decide +kernel
theorem d9_moves_94 : decode b9_moves 94 = .ok (.if_icmp .ge 13, 3) := by decide +kernel
theorem d9_moves_97 : decode b9_moves 97 = .ok (.aload_n 0, 1) := by decide +kernel
theorem d9_moves_98 : decode b9_moves 98 = .ok (.iload_n 1, 1) := by decide +kernel
theorem d9_moves_99 : decode b9_moves 99 = .ok (.iload_n 2, 1) := by decide +kernel
theorem d9_moves_100 : decode b9_moves 100 = .ok (.iload_n 3, 1) := by decide +kernel
theorem d9_moves_101 : decode b9_moves 101 = .ok (.invokevirtual 267, 3) := by decide +kernel
theorem d9_moves_104 : decode b9_moves 104 = .ok (.goto 119, 3) := by decide +kernel
theorem d9_moves_107 : decode b9_moves 107 = .ok (.iload_n 2, 1) := by decide +kernel
theorem d9_moves_108 : decode b9_moves 108 = .ok (.bipush 7, 2) := by decide +kernel
theorem d9_moves_110 : decode b9_moves 110 = .ok (.if_icmp .ne 11, 3) := by decide +kernel
theorem d9_moves_113 : decode b9_moves 113 = .ok (.aload_n 0, 1) := by decide +kernel
theorem d9_moves_114 : decode b9_moves 114 = .ok (.iload_n 3, 1) := by decide +kernel
theorem d9_moves_115 : decode b9_moves 115 = .ok (.invokevirtual 270, 3) := by decide +kernel
theorem d9_moves_118 : decode b9_moves 118 = .ok (.goto 105, 3) := by decide +kernel
theorem d9_moves_121 : decode b9_moves 121 = .ok (.iload_n 2, 1) := by decide +kernel
theorem d9_moves_122 : decode b9_moves 122 = .ok (.bipush 10, 2) := by decide +kernel
theorem d9_moves_124 : decode b9_moves 124 = .ok (.if_icmp .ne 10, 3) := by decide +kernel
theorem d9_moves_127 : decode b9_moves 127 = .ok (.aload_n 0, 1) := by decide +kernel
theorem d9_moves_128 : decode b9_moves 128 = .ok (.invokevirtual 219, 3) := by decide +kernel
theorem d9_moves_131 : decode b9_moves 131 = .ok (.goto 92, 3) := by decide +kernel
theorem d9_moves_134 : decode b9_moves 134 = .ok (.iload_n 2, 1) := by decide +kernel
theorem d9_moves_135 : decode b9_moves 135 = .ok (.bipush 8, 2) := by decide +kernel
theorem d9_moves_137 : decode b9_moves 137 = .ok (.if_icmp .ne 31, 3) := by decide +kernel
theorem d9_moves_140 : decode b9_moves 140 = .ok (.aload_n 0, 1) := by decide +kernel
theorem d9_moves_141 : decode b9_moves 141 = .ok (.invokevirtual 226, 3) := by decide +kernel
theorem d9_moves_144 : decode b9_moves 144 = .ok (.ifCond .eq 11, 3) := by decide +kernel
theorem d9_moves_147 : decode b9_moves 147 = .ok (.aload_n 0, 1) := by decide +kernel
theorem d9_moves_148 : decode b9_moves 148 = .ok (.iload_n 3, 1) := by decide +kernel
theorem d9_moves_149 : decode b9_moves 149 = .ok (.invokevirtual 270, 3) := by decide +kernel
theorem d9_moves_152 : decode b9_moves 152 = .ok (.goto 71, 3) := by decide +kernel
theorem d9_moves_155 : decode b9_moves 155 = .ok (.aload_n 0, 1) := by decide +kernel
theorem d9_moves_156 : decode b9_moves 156 = .ok (.dup, 1) := by decide +kernel
theorem d9_moves_157 : decode b9_moves 157 = .ok (.getfield 193, 3) := by decide +kernel
theorem d9_moves_160 : decode b9_moves 160 = .ok (.iconst 2, 1) := by decide +kernel
theorem d9_moves_161 : decode b9_moves 161 = .ok (.iadd, 1) := by decide +kernel
theorem d9_moves_162 : decode b9_moves 162 = .ok (.putfield 193, 3) := by decide +kernel
theorem d9_moves_165 : decode b9_moves 165 = .ok (.goto 58, 3) := by decide +kernel
theorem d9_moves_168 : decode b9_moves 168 = .ok (.iload_n 2, 1) := by decide +kernel
theorem d9_moves_169 : decode b9_moves 169 = .ok (.bipush 9, 2) := by decide +kernel
theorem d9_moves_171 : decode b9_moves 171 = .ok (.if_icmp .ne 46, 3) := by decide +kernel
theorem d9_moves_174 : decode b9_moves 174 = .ok (.aload_n 0, 1) := by decide +kernel
theorem d9_moves_175 : decode b9_moves 175 = .ok (.invokevirtual 226, 3) := by decide +kernel
theorem d9_moves_178 : decode b9_moves 178 = .ok (.istore 4, 2) := by decide +kernel
theorem d9_moves_180 : decode b9_moves 180 = .ok (.aload_n 0, 1) := by decide +kernel
theorem d9_moves_181 : decode b9_moves 181 = .ok (.aload_n 0, 1) := by decide +kernel
theorem d9_moves_182 : decode b9_moves 182 = .ok (.iload_n 1, 1) := by decide +kernel
theorem d9_moves_183 : decode b9_moves 183 = .ok (.aload_n 0, 1) := by decide +kernel
theorem d9_moves_184 : decode b9_moves 184 = .ok (.getfield 193, 3) := by decide +kernel
theorem d9_moves_187 : decode b9_moves 187 = .ok (.iconst 2, 1) := by decide +kernel
theorem d9_moves_188 : decode b9_moves 188 = .ok (.iadd, 1) := by decide +kernel
theorem d9_moves_189 : decode b9_moves 189 = .ok (.iload 4, 2) := by decide +kernel
theorem d9_moves_191 : decode b9_moves 191 = .ok (.iconst 0, 1) := by decide +kernel
theorem d9_moves_192 : decode b9_moves 192 = .ok (.iload_n 3, 1) := by decide +kernel
theorem d9_moves_193 : decode b9_moves 193 = .ok (.iconst 1, 1) := by decide +kernel
theorem d9_moves_194 : decode b9_moves 194 = .ok (.isub, 1) := by decide +kernel
theorem d9_moves_195 : decode b9_moves 195 = .ok (.invokestatic 92, 3) := by decide +kernel
theorem d9_moves_198 : decode b9_moves 198 = .ok (.ifCond .eq 8, 3) := by decide +kernel
theorem d9_moves_201 : decode b9_moves 201 = .ok (.iload 4, 2) := by decide +kernel
theorem d9_moves_203 : decode b9_moves 203 = .ok (.goto 4, 3) := by decide +kernel
theorem d9_moves_206 : decode b9_moves 206 = .ok (.iload_n 3, 1) := by decide +kernel
theorem d9_moves_207 : decode b9_moves 207 = .ok (.iadd, 1) := by decide +kernel
theorem d9_moves_208 : decode b9_moves 208 = .ok (.invokevirtual 115, 3) := by decide +kernel
theorem d9_moves_211 : decode b9_moves 211 = .ok (.invokevirtual 270, 3) := by decide +kernel
theorem d9_moves_214 : decode b9_moves 214 = .ok (.goto 9, 3) := by decide +kernel
theorem d9_moves_217 : decode b9_moves 217 = .ok (.aload_n 0, 1) := by decide +kernel
theorem d9_moves_218 : decode b9_moves 218 = .ok (.iload_n 2, 1) := by decide +kernel
theorem d9_moves_219 : decode b9_moves 219 = .ok (.iload_n 3, 1) := by decide +kernel
theorem d9_moves_220 : decode b9_moves 220 = .ok (.invokevirtual 273, 3) := by decide +kernel
theorem d9_moves_223 : decode b9_moves 223 = .ok (.return_, 1) := by decide +kernel
theorem d9_step_0 : decode b9_step 0 = .ok (.aload_n 0, 1) := by decide +kernel
theorem d9_step_1 : decode b9_step 1 = .ok (.getfield 76, 3) := by decide +kernel
theorem d9_step_4 : decode b9_step 4 = .ok (.aload_n 0, 1) := by decide +kernel
theorem d9_step_5 : decode b9_step 5 = .ok (.getfield 190, 3) := by decide +kernel
theorem d9_step_8 : decode b9_step 8 = .ok (.iconst 1, 1) := by decide +kernel
theorem d9_step_9 : decode b9_step 9 = .ok (.isub, 1) := by decide +kernel
theorem d9_step_10 : decode b9_step 10 = .ok (.iaload, 1) := by decide +kernel
theorem d9_step_11 : decode b9_step 11 = .ok (.istore_n 1, 1) := by decide +kernel
theorem d9_step_12 : decode b9_step 12 = .ok (.aload_n 0, 1) := by decide +kernel
theorem d9_step_13 : decode b9_step 13 = .ok (.iload_n 1, 1) := by decide +kernel
theorem d9_step_14 : decode b9_step 14 = .ok (.aload_n 0, 1) := by decide +kernel
theorem d9_step_15 : decode b9_step 15 = .ok (.getfield 193, 3) := by decide +kernel
theorem d9_step_18 : decode b9_step 18 = .ok (.invokevirtual 115, 3) := by decide +kernel
theorem d9_step_21 : decode b9_step 21 = .ok (.istore_n 2, 1) := by decide +kernel
theorem d9_step_22 : decode b9_step 22 = .ok (.aload_n 0, 1) := by decide +kernel
theorem d9_step_23 : decode b9_step 23 = .ok (.getfield 193, 3) := by decide +kernel
theorem d9_step_26 : decode b9_step 26 = .ok (.iconst 1, 1) := by decide +kernel
theorem d9_step_27 : decode b9_step 27 = .ok (.iadd, 1) := by decide +kernel
theorem d9_step_28 : decode b9_step 28 = .ok (.bipush 60, 2) := by decide +kernel
theorem d9_step_30 : decode b9_step 30 = .ok (.if_icmp .ge 17, 3) := by decide +kernel
theorem d9_step_33 : decode b9_step 33 = .ok (.aload_n 0, 1) := by decide +kernel
theorem d9_step_34 : decode b9_step 34 = .ok (.iload_n 1, 1) := by decide +kernel
theorem d9_step_35 : decode b9_step 35 = .ok (.aload_n 0, 1) := by decide +kernel
theorem d9_step_36 : decode b9_step 36 = .ok (.getfield 193, 3) := by decide +kernel
theorem d9_step_39 : decode b9_step 39 = .ok (.iconst 1, 1) := by decide +kernel
theorem d9_step_40 : decode b9_step 40 = .ok (.iadd, 1) := by decide +kernel
theorem d9_step_41 : decode b9_step 41 = .ok (.invokevirtual 115, 3) := by decide +kernel
theorem d9_step_44 : decode b9_step 44 = .ok (.goto 4, 3) := by decide +kernel
theorem d9_step_47 : decode b9_step 47 = .ok (.iconst 0, 1) := by decide +kernel
theorem d9_step_48 : decode b9_step 48 = .ok (.istore_n 3, 1) := by decide +kernel
theorem d9_step_49 : decode b9_step 49 = .ok (.aload_n 0, 1) := by decide +kernel
theorem d9_step_50 : decode b9_step 50 = .ok (.getfield 193, 3) := by decide +kernel
theorem d9_step_53 : decode b9_step 53 = .ok (.iconst 1, 1) := by decide +kernel
theorem d9_step_54 : decode b9_step 54 = .ok (.iadd, 1) := by decide +kernel
theorem d9_step_55 : decode b9_step 55 = .ok (.aload_n 0, 1) := by decide +kernel
theorem d9_step_56 : decode b9_step 56 = .ok (.iload_n 1, 1) := by decide +kernel
theorem d9_step_57 : decode b9_step 57 = .ok (.aload_n 0, 1) := by decide +kernel
theorem d9_step_58 : decode b9_step 58 = .ok (.getfield 193, 3) := by decide +kernel
theorem d9_step_61 : decode b9_step 61 = .ok (.invokevirtual 119, 3) := by decide +kernel
theorem d9_step_64 : decode b9_step 64 = .ok (.iadd, 1) := by decide +kernel
theorem d9_step_65 : decode b9_step 65 = .ok (.istore 4, 2) := by decide +kernel
theorem d9_step_67 : decode b9_step 67 = .ok (.aload_n 0, 1) := by decide +kernel
theorem d9_step_68 : decode b9_step 68 = .ok (.iconst 0, 1) := by decide +kernel
theorem d9_step_69 : decode b9_step 69 = .ok (.putfield 233, 3) := by decide +kernel
theorem d9_step_72 : decode b9_step 72 = .ok (.aload_n 0, 1) := by decide +kernel
theorem d9_step_73 : decode b9_step 73 = .ok (.dup, 1) := by decide +kernel
theorem d9_step_74 : decode b9_step 74 = .ok (.getfield 196, 3) := by decide +kernel
theorem d9_step_77 : decode b9_step 77 = .ok (.iconst 1, 1) := by decide +kernel
theorem d9_step_78 : decode b9_step 78 = .ok (.iadd, 1) := by decide +kernel
theorem d9_step_79 : decode b9_step 79 = .ok (.putfield 196, 3) := by decide +kernel
theorem d9_step_82 : decode b9_step 82 = .ok (.iload_n 2, 1) := by decide +kernel
theorem d9_step_83 : decode b9_step 83 = .ok (.iconst 2, 1) := by decide +kernel
theorem d9_step_84 : decode b9_step 84 = .ok (.if_icmp .lt 17, 3) := by decide +kernel
theorem d9_step_87 : decode b9_step 87 = .ok (.iload_n 2, 1) := by decide +kernel
theorem d9_step_88 : decode b9_step 88 = .ok (.bipush 12, 2) := by decide +kernel
theorem d9_step_90 : decode b9_step 90 = .ok (.if_icmp .gt 11, 3) := by decide +kernel
theorem d9_step_93 : decode b9_step 93 = .ok (.aload_n 0, 1) := by decide +kernel
theorem d9_step_94 : decode b9_step 94 = .ok (.iload_n 1, 1) := by decide +kernel
theorem d9_step_95 : decode b9_step 95 = .ok (.iload_n 2, 1) := by decide +kernel
theorem d9_step_96 : decode b9_step 96 = .ok (.iload_n 3, 1) := by decide +kernel
theorem d9_step_97 : decode b9_step 97 = .ok (.invokevirtual 276, 3) := by decide +kernel
theorem d9_step_100 : decode b9_step 100 = .ok (.return_, 1) := by decide +kernel
theorem d9_step_101 : decode b9_step 101 = .ok (.iload_n 2, 1) := by decide +kernel
theorem d9_step_102 : decode b9_step 102 = .ok (.ifCond .ne 11, 3) := by decide +kernel
theorem d9_step_105 : decode b9_step 105 = .ok (.aload_n 0, 1) := by decide +kernel
theorem d9_step_106 : decode b9_step 106 = .ok (.iconst 1, 1) := by decide +kernel
theorem d9_step_107 : decode b9_step 107 = .ok (.putfield 233, 3) := by decide +kernel
theorem d9_step_110 : decode b9_step 110 = .ok (.goto 68, 3) := by decide +kernel
theorem d9_step_113 : decode b9_step 113 = .ok (.iload_n 2, 1) := by decide +kernel
theorem d9_step_114 : decode b9_step 114 = .ok (.bipush 13, 2) := by decide +kernel
theorem d9_step_116 : decode b9_step 116 = .ok (.if_icmp .ne 16, 3) := by decide +kernel
theorem d9_step_119 : decode b9_step 119 = .ok (.aload_n 0, 1) := by decide +kernel
theorem d9_step_120 : decode b9_step 120 = .ok (.dup, 1) := by decide +kernel
theorem d9_step_121 : decode b9_step 121 = .ok (.getfield 122, 3) := by decide +kernel
theorem d9_step_124 : decode b9_step 124 = .ok (.iconst 1, 1) := by decide +kernel
theorem d9_step_125 : decode b9_step 125 = .ok (.isub, 1) := by decide +kernel
theorem d9_step_126 : decode b9_step 126 = .ok (.putfield 122, 3) := by decide +kernel
theorem d9_step_129 : decode b9_step 129 = .ok (.goto 49, 3) := by decide +kernel
theorem d9_step_132 : decode b9_step 132 = .ok (.iload_n 2, 1) := by decide +kernel
theorem d9_step_133 : decode b9_step 133 = .ok (.bipush 14, 2) := by decide +kernel
theorem d9_step_135 : decode b9_step 135 = .ok (.if_icmp .ne 10, 3) := by decide +kernel
theorem d9_step_138 : decode b9_step 138 = .ok (.aload_n 0, 1) := by decide +kernel
theorem d9_step_139 : decode b9_step 139 = .ok (.invokevirtual 279, 3) := by decide +kernel
theorem d9_step_142 : decode b9_step 142 = .ok (.goto 36, 3) := by decide +kernel
theorem d9_step_145 : decode b9_step 145 = .ok (.iload_n 2, 1) := by decide +kernel
theorem d9_step_146 : decode b9_step 146 = .ok (.bipush 15, 2) := by decide +kernel
theorem d9_step_148 : decode b9_step 148 = .ok (.if_icmp .lt 18, 3) := by decide +kernel
theorem d9_step_151 : decode b9_step 151 = .ok (.iload_n 2, 1) := by decide +kernel
theorem d9_step_152 : decode b9_step 152 = .ok (.bipush 19, 2) := by decide +kernel
theorem d9_step_154 : decode b9_step 154 = .ok (.if_icmp .gt 12, 3) := by decide +kernel
theorem d9_step_157 : decode b9_step 157 = .ok (.aload_n 0, 1) := by decide +kernel
theorem d9_step_158 : decode b9_step 158 = .ok (.iload_n 2, 1) := by decide +kernel
theorem d9_step_159 : decode b9_step 159 = .ok (.iload_n 3, 1) := by decide +kernel
theorem d9_step_160 : decode b9_step 160 = .ok (.invokevirtual 282, 3) := by decide +kernel
theorem d9_step_163 : decode b9_step 163 = .ok (.goto 15, 3) := by decide +kernel
theorem d9_step_166 : decode b9_step 166 = .ok (.iload_n 2, 1) := by decide +kernel
theorem d9_step_167 : decode b9_step 167 = .ok (.bipush 19, 2) := by decide +kernel
theorem d9_step_169 : decode b9_step 169 = .ok (.if_icmp .le 9, 3) := by decide +kernel
theorem d9_step_172 : decode b9_step 172 = .ok (.aload_n 0, 1) := by decide +kernel
theorem d9_step_173 : decode b9_step 173 = .ok (.iload_n 2, 1) := by decide +kernel
theorem d9_step_174 : decode b9_step 174 = .ok (.iload_n 3, 1) := by decide +kernel
theorem d9_step_175 : decode b9_step 175 = .ok (.invokevirtual 285, 3) := by decide +kernel
theorem d9_step_178 : decode b9_step 178 = .ok (.aload_n 0, 1) := by decide +kernel
theorem d9_step_179 : decode b9_step 179 = .ok (.iload 4, 2) := by decide +kernel
theorem d9_step_181 : decode b9_step 181 = .ok (.putfield 193, 3) := by decide +kernel
theorem d9_step_184 : decode b9_step 184 = .ok (.return_, 1) := by decide +kernel
theorem d9_run_0 : decode b9_run 0 = .ok (.aload_n 0, 1) := by decide +kernel
theorem d9_run_1 : decode b9_run 1 = .ok (.iload_n 1, 1) := by decide +kernel
theorem d9_run_2 : decode b9_run 2 = .ok (.iconst 1, 1) := by decide +kernel
theorem d9_run_3 : decode b9_run 3 = .ok (.bipush 20, 2) := by decide +kernel
theorem d9_run_5 : decode b9_run 5 = .ok (.invokestatic 92, 3) := by decide +kernel
theorem d9_run_8 : decode b9_run 8 = .ok (.iconst 1, 1) := by decide +kernel
theorem d9_run_9 : decode b9_run 9 = .ok (.invokevirtual 100, 3) := by decide +kernel
theorem d9_run_12 : decode b9_run 12 = .ok (.ifCond .ne 5, 3) := by decide +kernel
theorem d9_run_15 : decode b9_run 15 = .ok (.iconst 0, 1) := by decide +kernel
theorem d9_run_16 : decode b9_run 16 = .ok (.ireturn, 1) := by decide +kernel
theorem d9_run_17 : decode b9_run 17 = .ok (.aload_n 0, 1) := by decide +kernel
theorem d9_run_18 : decode b9_run 18 = .ok (.aload_n 0, 1) := by decide +kernel
theorem d9_run_19 : decode b9_run 19 = .ok (.getfield 104, 3) := by decide +kernel
theorem d9_run_22 : decode b9_run 22 = .ok (.iconst 1, 1) := by decide +kernel
theorem d9_run_23 : decode b9_run 23 = .ok (.if_icmp .ne 7, 3) := by decide +kernel
theorem d9_run_26 : decode b9_run 26 = .ok (.iconst 1, 1) := by decide +kernel
theorem d9_run_27 : decode b9_run 27 = .ok (.goto 4, 3) := by decide +kernel
theorem d9_run_30 : decode b9_run 30 = .ok (.iconst 0, 1) := by decide +kernel
theorem d9_run_31 : decode b9_run 31 = .ok (.iconst 2, 1) := by decide +kernel
theorem d9_run_32 : decode b9_run 32 = .ok (.invokevirtual 100, 3) := by decide +kernel
theorem d9_run_35 : decode b9_run 35 = .ok (.ifCond .ne 5, 3) := by decide +kernel
theorem d9_run_38 : decode b9_run 38 = .ok (.iconst 0, 1) := by decide +kernel
theorem d9_run_39 : decode b9_run 39 = .ok (.ireturn, 1) := by decide +kernel
theorem d9_run_40 : decode b9_run 40 = .ok (.iconst 0, 1) := by decide +kernel
theorem d9_run_41 : decode b9_run 41 = .ok (.istore_n 2, 1) := by decide +kernel
theorem d9_run_42 : decode b9_run 42 = .ok (.iload_n 2, 1) := by decide +kernel
theorem d9_run_43 : decode b9_run 43 = .ok (.iload_n 1, 1) := by decide +kernel
theorem d9_run_44 : decode b9_run 44 = .ok (.if_icmp .ge 63, 3) := by decide +kernel
theorem d9_run_47 : decode b9_run 47 = .ok (.aload_n 0, 1) := by decide +kernel
theorem d9_run_48 : decode b9_run 48 = .ok (.getfield 104, 3) := by decide +kernel
theorem d9_run_51 : decode b9_run 51 = .ok (.iconst 1, 1) := by decide +kernel
theorem d9_run_52 : decode b9_run 52 = .ok (.if_icmp .ne 55, 3) := by decide +kernel
theorem d9_run_55 : decode b9_run 55 = .ok (.aload_n 0, 1) := by decide +kernel
theorem d9_run_56 : decode b9_run 56 = .ok (.invokevirtual 288, 3) := by decide +kernel
theorem d9_run_59 : decode b9_run 59 = .ok (.iinc 2 1, 3) := by decide +kernel
theorem d9_run_62 : decode b9_run 62 = .ok (.aload_n 0, 1) := by decide +kernel
theorem d9_run_63 : decode b9_run 63 = .ok (.getfield 233, 3) := by decide +kernel
theorem d9_run_66 : decode b9_run 66 = .ok (.ifCond .le (-24), 3) := by decide +kernel
theorem d9_run_69 : decode b9_run 69 = .ok (.aload_n 0, 1) := by decide +kernel
theorem d9_run_70 : decode b9_run 70 = .ok (.iconst 3, 1) := by decide +kernel
theorem d9_run_71 : decode b9_run 71 = .ok (.putfield 104, 3) := by decide +kernel
theorem d9_run_74 : decode b9_run 74 = .ok (.aload_n 0, 1) := by decide +kernel
theorem d9_run_75 : decode b9_run 75 = .ok (.aload_n 0, 1) := by decide +kernel
theorem d9_run_76 : decode b9_run 76 = .ok (.getfield 233, 3) := by decide +kernel
theorem d9_run_79 : decode b9_run 79 = .ok (.putfield 291, 3) := by decide +kernel
theorem d9_run_82 : decode b9_run 82 = .ok (.aload_n 0, 1) := by decide +kernel
theorem d9_run_83 : decode b9_run 83 = .ok (.aload_n 0, 1) := by decide +kernel
theorem d9_run_84 : decode b9_run 84 = .ok (.getfield 233, 3) := by decide +kernel
theorem d9_run_87 : decode b9_run 87 = .ok (.iconst 1, 1) := by decide +kernel
theorem d9_run_88 : decode b9_run 88 = .ok (.if_icmp .ne 8, 3) := by decide +kernel
theorem d9_run_91 : decode b9_run 91 = .ok (.bipush 7, 2) := by decide +kernel
theorem d9_run_93 : decode b9_run 93 = .ok (.goto 9, 3) := by decide +kernel
theorem d9_run_96 : decode b9_run 96 = .ok (.aload_n 0, 1) := by decide +kernel
theorem d9_run_97 : decode b9_run 97 = .ok (.getfield 233, 3) := by decide +kernel
theorem d9_run_100 : decode b9_run 100 = .ok (.iconst 1, 1) := by decide +kernel
theorem d9_run_101 : decode b9_run 101 = .ok (.iadd, 1) := by decide +kernel
theorem d9_run_102 : decode b9_run 102 = .ok (.putfield 88, 3) := by decide +kernel
theorem d9_run_105 : decode b9_run 105 = .ok (.iconst 0, 1) := by decide +kernel
theorem d9_run_106 : decode b9_run 106 = .ok (.ireturn, 1) := by decide +kernel
theorem d9_run_107 : decode b9_run 107 = .ok (.iload_n 2, 1) := by decide +kernel
theorem d9_run_108 : decode b9_run 108 = .ok (.ireturn, 1) := by decide +kernel
theorem d9_stop_0 : decode b9_stop 0 = .ok (.aload_n 0, 1) := by decide +kernel
theorem d9_stop_1 : decode b9_stop 1 = .ok (.aload_n 0, 1) := by decide +kernel
theorem d9_stop_2 : decode b9_stop 2 = .ok (.getfield 104, 3) := by decide +kernel
theorem d9_stop_5 : decode b9_stop 5 = .ok (.iconst 1, 1) := by decide +kernel
theorem d9_stop_6 : decode b9_stop 6 = .ok (.if_icmp .ne 7, 3) := by decide +kernel
theorem d9_stop_9 : decode b9_stop 9 = .ok (.iconst 1, 1) := by decide +kernel
theorem d9_stop_10 : decode b9_stop 10 = .ok (.goto 4, 3) := by decide +kernel
theorem d9_stop_13 : decode b9_stop 13 = .ok (.iconst 0, 1) := by decide +kernel
theorem d9_stop_14 : decode b9_stop 14 = .ok (.iconst 1, 1) := by decide +kernel
theorem d9_stop_15 : decode b9_stop 15 = .ok (.invokevirtual 100, 3) := by decide +kernel
theorem d9_stop_18 : decode b9_stop 18 = .ok (.ifCond .ne 5, 3) := by decide +kernel
theorem d9_stop_21 : decode b9_stop 21 = .ok (.iconst 0, 1) := by decide +kernel
theorem d9_stop_22 : decode b9_stop 22 = .ok (.ireturn, 1) := by decide +kernel
theorem d9_stop_23 : decode b9_stop 23 = .ok (.aload_n 0, 1) := by decide +kernel
theorem d9_stop_24 : decode b9_stop 24 = .ok (.iconst 0, 1) := by decide +kernel
theorem d9_stop_25 : decode b9_stop 25 = .ok (.putfield 104, 3) := by decide +kernel
theorem d9_stop_28 : decode b9_stop 28 = .ok (.aload_n 0, 1) := by decide +kernel
theorem d9_stop_29 : decode b9_stop 29 = .ok (.getfield 196, 3) := by decide +kernel
theorem d9_stop_32 : decode b9_stop 32 = .ok (.ireturn, 1) := by decide +kernel
theorem d9_result_0 : decode b9_result 0 = .ok (.aload_n 0, 1) := by decide +kernel
theorem d9_result_1 : decode b9_result 1 = .ok (.aload_n 0, 1) := by decide +kernel
theorem d9_result_2 : decode b9_result 2 = .ok (.getfield 104, 3) := by decide +kernel
theorem d9_result_5 : decode b9_result 5 = .ok (.iconst 2, 1) := by decide +kernel
theorem d9_result_6 : decode b9_result 6 = .ok (.if_icmp .ne 7, 3) := by decide +kernel
theorem d9_result_9 : decode b9_result 9 = .ok (.iconst 1, 1) := by decide +kernel
theorem d9_result_10 : decode b9_result 10 = .ok (.goto 4, 3) := by decide +kernel
theorem d9_result_13 : decode b9_result 13 = .ok (.iconst 0, 1) := by decide +kernel
theorem d9_result_14 : decode b9_result 14 = .ok (.iconst 1, 1) := by decide +kernel
theorem d9_result_15 : decode b9_result 15 = .ok (.invokevirtual 100, 3) := by decide +kernel
theorem d9_result_18 : decode b9_result 18 = .ok (.ifCond .ne 5, 3) := by decide +kernel
theorem d9_result_21 : decode b9_result 21 = .ok (.lconst 0, 1) := by decide +kernel
theorem d9_result_22 : decode b9_result 22 = .ok (.lreturn, 1) := by decide +kernel
theorem d9_result_23 : decode b9_result 23 = .ok (.aload_n 0, 1) := by decide +kernel
theorem d9_result_24 : decode b9_result 24 = .ok (.aload_n 0, 1) := by decide +kernel
theorem d9_result_25 : decode b9_result 25 = .ok (.getfield 204, 3) := by decide +kernel
theorem d9_result_28 : decode b9_result 28 = .ok (.iconst 1, 1) := by decide +kernel
theorem d9_result_29 : decode b9_result 29 = .ok (.if_icmp .eq 11, 3) := by decide +kernel
theorem d9_result_32 : decode b9_result 32 = .ok (.aload_n 0, 1) := by decide +kernel
theorem d9_result_33 : decode b9_result 33 = .ok (.getfield 204, 3) := by decide +kernel
theorem d9_result_36 : decode b9_result 36 = .ok (.iconst 2, 1) := by decide +kernel
theorem d9_result_37 : decode b9_result 37 = .ok (.if_icmp .ne 7, 3) := by decide +kernel
theorem d9_result_40 : decode b9_result 40 = .ok (.iconst 1, 1) := by decide +kernel
theorem d9_result_41 : decode b9_result 41 = .ok (.goto 4, 3) := by decide +kernel
theorem d9_result_44 : decode b9_result 44 = .ok (.iconst 0, 1) := by decide +kernel
theorem d9_result_45 : decode b9_result 45 = .ok (.iconst 2, 1) := by decide +kernel
theorem d9_result_46 : decode b9_result 46 = .ok (.invokevirtual 100, 3) := by decide +kernel
theorem d9_result_49 : decode b9_result 49 = .ok (.ifCond .eq 10, 3) := by decide +kernel
theorem d9_result_52 : decode b9_result 52 = .ok (.aload_n 0, 1) := by decide +kernel
theorem d9_result_53 : decode b9_result 53 = .ok (.getfield 207, 3) := by decide +kernel
theorem d9_result_56 : decode b9_result 56 = .ok (.goto 4, 3) := by decide +kernel
theorem d9_result_59 : decode b9_result 59 = .ok (.lconst 0, 1) := by decide +kernel
theorem d9_result_60 : decode b9_result 60 = .ok (.lreturn, 1) := by decide +kernel
theorem d9_real_0 : decode b9_real 0 = .ok (.aload_n 0, 1) := by decide +kernel
theorem d9_real_1 : decode b9_real 1 = .ok (.aload_n 0, 1) := by decide +kernel
theorem d9_real_2 : decode b9_real 2 = .ok (.getfield 104, 3) := by decide +kernel
theorem d9_real_5 : decode b9_real 5 = .ok (.iconst 2, 1) := by decide +kernel
theorem d9_real_6 : decode b9_real 6 = .ok (.if_icmp .ne 7, 3) := by decide +kernel
theorem d9_real_9 : decode b9_real 9 = .ok (.iconst 1, 1) := by decide +kernel
theorem d9_real_10 : decode b9_real 10 = .ok (.goto 4, 3) := by decide +kernel
theorem d9_real_13 : decode b9_real 13 = .ok (.iconst 0, 1) := by decide +kernel
theorem d9_real_14 : decode b9_real 14 = .ok (.iconst 1, 1) := by decide +kernel
theorem d9_real_15 : decode b9_real 15 = .ok (.invokevirtual 100, 3) := by decide +kernel
theorem d9_real_18 : decode b9_real 18 = .ok (.ifCond .ne 5, 3) := by decide +kernel
theorem d9_real_21 : decode b9_real 21 = .ok (.dconst 0, 1) := by decide +kernel
theorem d9_real_22 : decode b9_real 22 = .ok (.dreturn, 1) := by decide +kernel
theorem d9_real_23 : decode b9_real 23 = .ok (.aload_n 0, 1) := by decide +kernel
theorem d9_real_24 : decode b9_real 24 = .ok (.aload_n 0, 1) := by decide +kernel
theorem d9_real_25 : decode b9_real 25 = .ok (.getfield 204, 3) := by decide +kernel
theorem d9_real_28 : decode b9_real 28 = .ok (.iconst 3, 1) := by decide +kernel
theorem d9_real_29 : decode b9_real 29 = .ok (.if_icmp .ne 7, 3) := by decide +kernel
theorem d9_real_32 : decode b9_real 32 = .ok (.iconst 1, 1) := by decide +kernel
theorem d9_real_33 : decode b9_real 33 = .ok (.goto 4, 3) := by decide +kernel
theorem d9_real_36 : decode b9_real 36 = .ok (.iconst 0, 1) := by decide +kernel
theorem d9_real_37 : decode b9_real 37 = .ok (.iconst 2, 1) := by decide +kernel
theorem d9_real_38 : decode b9_real 38 = .ok (.invokevirtual 100, 3) := by decide +kernel
theorem d9_real_41 : decode b9_real 41 = .ok (.ifCond .eq 10, 3) := by decide +kernel
theorem d9_real_44 : decode b9_real 44 = .ok (.aload_n 0, 1) := by decide +kernel
theorem d9_real_45 : decode b9_real 45 = .ok (.getfield 211, 3) := by decide +kernel
theorem d9_real_48 : decode b9_real 48 = .ok (.goto 4, 3) := by decide +kernel
theorem d9_real_51 : decode b9_real 51 = .ok (.dconst 0, 1) := by decide +kernel
theorem d9_real_52 : decode b9_real 52 = .ok (.dreturn, 1) := by decide +kernel
theorem d9_global_0 : decode b9_global 0 = .ok (.aload_n 0, 1) := by decide +kernel
theorem d9_global_1 : decode b9_global 1 = .ok (.iload_n 1, 1) := by decide +kernel
theorem d9_global_2 : decode b9_global 2 = .ok (.iconst 0, 1) := by decide +kernel
theorem d9_global_3 : decode b9_global 3 = .ok (.iconst 1, 1) := by decide +kernel
theorem d9_global_4 : decode b9_global 4 = .ok (.invokestatic 92, 3) := by decide +kernel
theorem d9_global_7 : decode b9_global 7 = .ok (.iconst 1, 1) := by decide +kernel
theorem d9_global_8 : decode b9_global 8 = .ok (.invokevirtual 100, 3) := by decide +kernel
theorem d9_global_11 : decode b9_global 11 = .ok (.ifCond .eq 12, 3) := by decide +kernel
theorem d9_global_14 : decode b9_global 14 = .ok (.aload_n 0, 1) := by decide +kernel
theorem d9_global_15 : decode b9_global 15 = .ok (.getfield 34, 3) := by decide +kernel
theorem d9_global_18 : decode b9_global 18 = .ok (.iload_n 1, 1) := by decide +kernel
theorem d9_global_19 : decode b9_global 19 = .ok (.laload, 1) := by decide +kernel
theorem d9_global_20 : decode b9_global 20 = .ok (.goto 4, 3) := by decide +kernel
theorem d9_global_23 : decode b9_global 23 = .ok (.lconst 0, 1) := by decide +kernel
theorem d9_global_24 : decode b9_global 24 = .ok (.lreturn, 1) := by decide +kernel
theorem d9_realGlobal_0 : decode b9_realGlobal 0 = .ok (.aload_n 0, 1) := by decide +kernel
theorem d9_realGlobal_1 : decode b9_realGlobal 1 = .ok (.iconst 0, 1) := by decide +kernel
theorem d9_realGlobal_2 : decode b9_realGlobal 2 = .ok (.putfield 88, 3) := by decide +kernel
theorem d9_realGlobal_5 : decode b9_realGlobal 5 = .ok (.aload_n 0, 1) := by decide +kernel
theorem d9_realGlobal_6 : decode b9_realGlobal 6 = .ok (.getfield 236, 3) := by decide +kernel
theorem d9_realGlobal_9 : decode b9_realGlobal 9 = .ok (.dreturn, 1) := by decide +kernel
theorem d9_memory_0 : decode b9_memory 0 = .ok (.aload_n 0, 1) := by decide +kernel
theorem d9_memory_1 : decode b9_memory 1 = .ok (.iload_n 1, 1) := by decide +kernel
theorem d9_memory_2 : decode b9_memory 2 = .ok (.iconst 0, 1) := by decide +kernel
theorem d9_memory_3 : decode b9_memory 3 = .ok (.bipush 63, 2) := by decide +kernel
theorem d9_memory_5 : decode b9_memory 5 = .ok (.invokestatic 92, 3) := by decide +kernel
theorem d9_memory_8 : decode b9_memory 8 = .ok (.iconst 1, 1) := by decide +kernel
theorem d9_memory_9 : decode b9_memory 9 = .ok (.invokevirtual 100, 3) := by decide +kernel
theorem d9_memory_12 : decode b9_memory 12 = .ok (.ifCond .eq 12, 3) := by decide +kernel
theorem d9_memory_15 : decode b9_memory 15 = .ok (.aload_n 0, 1) := by decide +kernel
theorem d9_memory_16 : decode b9_memory 16 = .ok (.getfield 31, 3) := by decide +kernel
theorem d9_memory_19 : decode b9_memory 19 = .ok (.iload_n 1, 1) := by decide +kernel
theorem d9_memory_20 : decode b9_memory 20 = .ok (.iaload, 1) := by decide +kernel
theorem d9_memory_21 : decode b9_memory 21 = .ok (.goto 4, 3) := by decide +kernel
theorem d9_memory_24 : decode b9_memory 24 = .ok (.iconst 0, 1) := by decide +kernel
theorem d9_memory_25 : decode b9_memory 25 = .ok (.ireturn, 1) := by decide +kernel
theorem d9_wipe_0 : decode b9_wipe 0 = .ok (.aload_n 0, 1) := by decide +kernel
theorem d9_wipe_1 : decode b9_wipe 1 = .ok (.aload_n 0, 1) := by decide +kernel
theorem d9_wipe_2 : decode b9_wipe 2 = .ok (.getfield 104, 3) := by decide +kernel
theorem d9_wipe_5 : decode b9_wipe 5 = .ok (.iconst 1, 1) := by decide +kernel
theorem d9_wipe_6 : decode b9_wipe 6 = .ok (.if_icmp .eq 7, 3) := by decide +kernel
theorem d9_wipe_9 : decode b9_wipe 9 = .ok (.iconst 1, 1) := by decide +kernel
theorem d9_wipe_10 : decode b9_wipe 10 = .ok (.goto 4, 3) := by decide +kernel
theorem d9_wipe_13 : decode b9_wipe 13 = .ok (.iconst 0, 1) := by decide +kernel
theorem d9_wipe_14 : decode b9_wipe 14 = .ok (.iconst 1, 1) := by decide +kernel
theorem d9_wipe_15 : decode b9_wipe 15 = .ok (.invokevirtual 100, 3) := by decide +kernel
theorem d9_wipe_18 : decode b9_wipe 18 = .ok (.ifCond .ne 5, 3) := by decide +kernel
theorem d9_wipe_21 : decode b9_wipe 21 = .ok (.iconst 0, 1) := by decide +kernel
theorem d9_wipe_22 : decode b9_wipe 22 = .ok (.ireturn, 1) := by decide +kernel
theorem d9_wipe_23 : decode b9_wipe 23 = .ok (.iconst 0, 1) := by decide +kernel
theorem d9_wipe_24 : decode b9_wipe 24 = .ok (.istore_n 1, 1) := by decide +kernel
theorem d9_wipe_25 : decode b9_wipe 25 = .ok (.iconst 0, 1) := by decide +kernel
theorem d9_wipe_26 : decode b9_wipe 26 = .ok (.istore_n 2, 1) := by decide +kernel
theorem d9_wipe_27 : decode b9_wipe 27 = .ok (.iload_n 2, 1) := by decide +kernel
theorem d9_wipe_28 : decode b9_wipe 28 = .ok (.bipush 64, 2) := by decide +kernel
theorem d9_wipe_30 : decode b9_wipe 30 = .ok (.if_icmp .ge 28, 3) := by decide +kernel
theorem d9_wipe_33 : decode b9_wipe 33 = .ok (.aload_n 0, 1) := by decide +kernel
theorem d9_wipe_34 : decode b9_wipe 34 = .ok (.getfield 31, 3) := by decide +kernel
theorem d9_wipe_37 : decode b9_wipe 37 = .ok (.iload_n 2, 1) := by decide +kernel
theorem d9_wipe_38 : decode b9_wipe 38 = .ok (.iaload, 1) := by decide +kernel
theorem d9_wipe_39 : decode b9_wipe 39 = .ok (.ifCond .eq 6, 3) := by decide +kernel
theorem d9_wipe_42 : decode b9_wipe 42 = .ok (.iinc 1 1, 3) := by decide +kernel
theorem d9_wipe_45 : decode b9_wipe 45 = .ok (.aload_n 0, 1) := by decide +kernel
theorem d9_wipe_46 : decode b9_wipe 46 = .ok (.getfield 31, 3) := by decide +kernel
theorem d9_wipe_49 : decode b9_wipe 49 = .ok (.iload_n 2, 1) := by decide +kernel
theorem d9_wipe_50 : decode b9_wipe 50 = .ok (.iconst 0, 1) := by decide +kernel
theorem d9_wipe_51 : decode b9_wipe 51 = .ok (.iastore, 1) := by decide +kernel
theorem d9_wipe_52 : decode b9_wipe 52 = .ok (.iinc 2 1, 3) := by decide +kernel
theorem d9_wipe_55 : decode b9_wipe 55 = .ok (.goto (-28), 3) := by decide +kernel
theorem d9_wipe_58 : decode b9_wipe 58 = .ok (.aload_n 0, 1) := by decide +kernel
theorem d9_wipe_59 : decode b9_wipe 59 = .ok (.getfield 34, 3) := by decide +kernel
theorem d9_wipe_62 : decode b9_wipe 62 = .ok (.iconst 0, 1) := by decide +kernel
theorem d9_wipe_63 : decode b9_wipe 63 = .ok (.lconst 0, 1) := by decide +kernel
theorem d9_wipe_64 : decode b9_wipe 64 = .ok (.lastore, 1) := by decide +kernel
theorem d9_wipe_65 : decode b9_wipe 65 = .ok (.aload_n 0, 1) := by decide +kernel
theorem d9_wipe_66 : decode b9_wipe 66 = .ok (.getfield 34, 3) := by decide +kernel
theorem d9_wipe_69 : decode b9_wipe 69 = .ok (.iconst 1, 1) := by decide +kernel
theorem d9_wipe_70 : decode b9_wipe 70 = .ok (.lconst 0, 1) := by decide +kernel
theorem d9_wipe_71 : decode b9_wipe 71 = .ok (.lastore, 1) := by decide +kernel
theorem d9_wipe_72 : decode b9_wipe 72 = .ok (.aload_n 0, 1) := by decide +kernel
theorem d9_wipe_73 : decode b9_wipe 73 = .ok (.dconst 0, 1) := by decide +kernel
theorem d9_wipe_74 : decode b9_wipe 74 = .ok (.putfield 236, 3) := by decide +kernel
theorem d9_wipe_77 : decode b9_wipe 77 = .ok (.iload_n 1, 1) := by decide +kernel
theorem d9_wipe_78 : decode b9_wipe 78 = .ok (.ireturn, 1) := by decide +kernel
theorem d9_count_0 : decode b9_count 0 = .ok (.aload_n 0, 1) := by decide +kernel
theorem d9_count_1 : decode b9_count 1 = .ok (.iload_n 1, 1) := by decide +kernel
theorem d9_count_2 : decode b9_count 2 = .ok (.iconst 0, 1) := by decide +kernel
theorem d9_count_3 : decode b9_count 3 = .ok (.bipush 11, 2) := by decide +kernel
theorem d9_count_5 : decode b9_count 5 = .ok (.invokestatic 92, 3) := by decide +kernel
theorem d9_count_8 : decode b9_count 8 = .ok (.iconst 1, 1) := by decide +kernel
theorem d9_count_9 : decode b9_count 9 = .ok (.invokevirtual 100, 3) := by decide +kernel
theorem d9_count_12 : decode b9_count 12 = .ok (.ifCond .ne 5, 3) := by decide +kernel
theorem d9_count_15 : decode b9_count 15 = .ok (.iconst 0, 1) := by decide +kernel
theorem d9_count_16 : decode b9_count 16 = .ok (.ireturn, 1) := by decide +kernel
theorem d9_count_17 : decode b9_count 17 = .ok (.iload_n 1, 1) := by decide +kernel
theorem d9_count_18 : decode b9_count 18 = .ok (.iconst 5, 1) := by decide +kernel
theorem d9_count_19 : decode b9_count 19 = .ok (.if_icmp .le 13, 3) := by decide +kernel
theorem d9_count_22 : decode b9_count 22 = .ok (.aload_n 0, 1) := by decide +kernel
theorem d9_count_23 : decode b9_count 23 = .ok (.getfield 25, 3) := by decide +kernel
theorem d9_count_26 : decode b9_count 26 = .ok (.iload_n 1, 1) := by decide +kernel
theorem d9_count_27 : decode b9_count 27 = .ok (.bipush 6, 2) := by decide +kernel
theorem d9_count_29 : decode b9_count 29 = .ok (.isub, 1) := by decide +kernel
theorem d9_count_30 : decode b9_count 30 = .ok (.iaload, 1) := by decide +kernel
theorem d9_count_31 : decode b9_count 31 = .ok (.ireturn, 1) := by decide +kernel
theorem d9_count_32 : decode b9_count 32 = .ok (.iload_n 1, 1) := by decide +kernel
theorem d9_count_33 : decode b9_count 33 = .ok (.ifCond .ne 10, 3) := by decide +kernel
theorem d9_count_36 : decode b9_count 36 = .ok (.aload_n 0, 1) := by decide +kernel
theorem d9_count_37 : decode b9_count 37 = .ok (.getfield 104, 3) := by decide +kernel
theorem d9_count_40 : decode b9_count 40 = .ok (.goto 75, 3) := by decide +kernel
theorem d9_count_43 : decode b9_count 43 = .ok (.iload_n 1, 1) := by decide +kernel
theorem d9_count_44 : decode b9_count 44 = .ok (.iconst 1, 1) := by decide +kernel
theorem d9_count_45 : decode b9_count 45 = .ok (.if_icmp .ne 10, 3) := by decide +kernel
theorem d9_count_48 : decode b9_count 48 = .ok (.aload_n 0, 1) := by decide +kernel
theorem d9_count_49 : decode b9_count 49 = .ok (.getfield 196, 3) := by decide +kernel
theorem d9_count_52 : decode b9_count 52 = .ok (.goto 63, 3) := by decide +kernel
theorem d9_count_55 : decode b9_count 55 = .ok (.iload_n 1, 1) := by decide +kernel
theorem d9_count_56 : decode b9_count 56 = .ok (.iconst 2, 1) := by decide +kernel
theorem d9_count_57 : decode b9_count 57 = .ok (.if_icmp .ne 22, 3) := by decide +kernel
theorem d9_count_60 : decode b9_count 60 = .ok (.aload_n 0, 1) := by decide +kernel
theorem d9_count_61 : decode b9_count 61 = .ok (.getfield 104, 3) := by decide +kernel
theorem d9_count_64 : decode b9_count 64 = .ok (.iconst 1, 1) := by decide +kernel
theorem d9_count_65 : decode b9_count 65 = .ok (.if_icmp .ne 10, 3) := by decide +kernel
theorem d9_count_68 : decode b9_count 68 = .ok (.aload_n 0, 1) := by decide +kernel
theorem d9_count_69 : decode b9_count 69 = .ok (.getfield 190, 3) := by decide +kernel
theorem d9_count_72 : decode b9_count 72 = .ok (.goto 43, 3) := by decide +kernel
theorem d9_count_75 : decode b9_count 75 = .ok (.iconst 0, 1) := by decide +kernel
theorem d9_count_76 : decode b9_count 76 = .ok (.goto 39, 3) := by decide +kernel
theorem d9_count_79 : decode b9_count 79 = .ok (.iload_n 1, 1) := by decide +kernel
theorem d9_count_80 : decode b9_count 80 = .ok (.iconst 3, 1) := by decide +kernel
theorem d9_count_81 : decode b9_count 81 = .ok (.if_icmp .ne 10, 3) := by decide +kernel
theorem d9_count_84 : decode b9_count 84 = .ok (.aload_n 0, 1) := by decide +kernel
theorem d9_count_85 : decode b9_count 85 = .ok (.getfield 291, 3) := by decide +kernel
theorem d9_count_88 : decode b9_count 88 = .ok (.goto 27, 3) := by decide +kernel
theorem d9_count_91 : decode b9_count 91 = .ok (.iload_n 1, 1) := by decide +kernel
theorem d9_count_92 : decode b9_count 92 = .ok (.iconst 4, 1) := by decide +kernel
theorem d9_count_93 : decode b9_count 93 = .ok (.if_icmp .ne 18, 3) := by decide +kernel
theorem d9_count_96 : decode b9_count 96 = .ok (.aload_n 0, 1) := by decide +kernel
theorem d9_count_97 : decode b9_count 97 = .ok (.getfield 111, 3) := by decide +kernel
theorem d9_count_100 : decode b9_count 100 = .ok (.ifCond .eq 7, 3) := by decide +kernel
theorem d9_count_103 : decode b9_count 103 = .ok (.iconst 1, 1) := by decide +kernel
theorem d9_count_104 : decode b9_count 104 = .ok (.goto 11, 3) := by decide +kernel
theorem d9_count_107 : decode b9_count 107 = .ok (.iconst 0, 1) := by decide +kernel
theorem d9_count_108 : decode b9_count 108 = .ok (.goto 7, 3) := by decide +kernel
theorem d9_count_111 : decode b9_count 111 = .ok (.aload_n 0, 1) := by decide +kernel
theorem d9_count_112 : decode b9_count 112 = .ok (.getfield 187, 3) := by decide +kernel
theorem d9_count_115 : decode b9_count 115 = .ok (.ireturn, 1) := by decide +kernel
theorem d0_init_0 : decode b0_init 0 = .ok (.aload_n 0, 1) := by decide +kernel
theorem d0_init_1 : decode b0_init 1 = .ok (.invokespecial 3, 3) := by decide +kernel
theorem d0_init_4 : decode b0_init 4 = .ok (.aload_n 0, 1) := by decide +kernel
theorem d0_init_5 : decode b0_init 5 = .ok (.new 9, 3) := by decide +kernel
theorem d0_init_8 : decode b0_init 8 = .ok (.dup, 1) := by decide +kernel
theorem d0_init_9 : decode b0_init 9 = .ok (.bipush 16, 2) := by decide +kernel
theorem d0_init_11 : decode b0_init 11 = .ok (.invokespecial 11, 3) := by decide +kernel
theorem d0_init_14 : decode b0_init 14 = .ok (.putfield 14, 3) := by decide +kernel
theorem d0_init_17 : decode b0_init 17 = .ok (.aload_n 0, 1) := by decide +kernel
theorem d0_init_18 : decode b0_init 18 = .ok (.new 9, 3) := by decide +kernel
theorem d0_init_21 : decode b0_init 21 = .ok (.dup, 1) := by decide +kernel
theorem d0_init_22 : decode b0_init 22 = .ok (.bipush 6, 2) := by decide +kernel
theorem d0_init_24 : decode b0_init 24 = .ok (.invokespecial 11, 3) := by decide +kernel
theorem d0_init_27 : decode b0_init 27 = .ok (.putfield 20, 3) := by decide +kernel
theorem d0_init_30 : decode b0_init 30 = .ok (.aload_n 0, 1) := by decide +kernel
theorem d0_init_31 : decode b0_init 31 = .ok (.bipush 8, 2) := by decide +kernel
theorem d0_init_33 : decode b0_init 33 = .ok (.newarray .int, 2) := by decide +kernel
theorem d0_init_35 : decode b0_init 35 = .ok (.putfield 23, 3) := by decide +kernel
theorem d0_init_38 : decode b0_init 38 = .ok (.aload_n 0, 1) := by decide +kernel
theorem d0_init_39 : decode b0_init 39 = .ok (.bipush 8, 2) := by decide +kernel
theorem d0_init_41 : decode b0_init 41 = .ok (.newarray .int, 2) := by decide +kernel
theorem d0_init_43 : decode b0_init 43 = .ok (.putfield 27, 3) := by decide +kernel
theorem d0_init_46 : decode b0_init 46 = .ok (.aload_n 0, 1) := by decide +kernel
theorem d0_init_47 : decode b0_init 47 = .ok (.aload_n 1, 1) := by decide +kernel
theorem d0_init_48 : decode b0_init 48 = .ok (.putfield 30, 3) := by decide +kernel
theorem d0_init_51 : decode b0_init 51 = .ok (.return_, 1) := by decide +kernel
theorem d0_begin_0 : decode b0_begin 0 = .ok (.aload_n 0, 1) := by decide +kernel
theorem d0_begin_1 : decode b0_begin 1 = .ok (.aload_n 1, 1) := by decide +kernel
theorem d0_begin_2 : decode b0_begin 2 = .ok (.putfield 30, 3) := by decide +kernel
theorem d0_begin_5 : decode b0_begin 5 = .ok (.aload_n 0, 1) := by decide +kernel
theorem d0_begin_6 : decode b0_begin 6 = .ok (.iconst 0, 1) := by decide +kernel
theorem d0_begin_7 : decode b0_begin 7 = .ok (.putfield 34, 3) := by decide +kernel
theorem d0_begin_10 : decode b0_begin 10 = .ok (.aload_n 0, 1) := by decide +kernel
theorem d0_begin_11 : decode b0_begin 11 = .ok (.iconst 1, 1) := by decide +kernel
theorem d0_begin_12 : decode b0_begin 12 = .ok (.putfield 38, 3) := by decide +kernel
theorem d0_begin_15 : decode b0_begin 15 = .ok (.aload_n 0, 1) := by decide +kernel
theorem d0_begin_16 : decode b0_begin 16 = .ok (.getfield 14, 3) := by decide +kernel
theorem d0_begin_19 : decode b0_begin 19 = .ok (.invokevirtual 41, 3) := by decide +kernel
theorem d0_begin_22 : decode b0_begin 22 = .ok (.aload_n 0, 1) := by decide +kernel
theorem d0_begin_23 : decode b0_begin 23 = .ok (.getfield 20, 3) := by decide +kernel
theorem d0_begin_26 : decode b0_begin 26 = .ok (.invokevirtual 41, 3) := by decide +kernel
theorem d0_begin_29 : decode b0_begin 29 = .ok (.return_, 1) := by decide +kernel
theorem d0_setParameter_0 : decode b0_setParameter 0 = .ok (.aload_n 0, 1) := by decide +kernel
theorem d0_setParameter_1 : decode b0_setParameter 1 = .ok (.getfield 30, 3) := by decide +kernel
theorem d0_setParameter_4 : decode b0_setParameter 4 = .ok (.iload_n 1, 1) := by decide +kernel
theorem d0_setParameter_5 : decode b0_setParameter 5 = .ok (.invokevirtual 44, 3) := by decide +kernel
theorem d0_setParameter_8 : decode b0_setParameter 8 = .ok (.iconst 3, 1) := by decide +kernel
theorem d0_setParameter_9 : decode b0_setParameter 9 = .ok (.if_icmp .ne 21, 3) := by decide +kernel
theorem d0_setParameter_12 : decode b0_setParameter 12 = .ok (.aload_n 0, 1) := by decide +kernel
theorem d0_setParameter_13 : decode b0_setParameter 13 = .ok (.getfield 20, 3) := by decide +kernel
theorem d0_setParameter_16 : decode b0_setParameter 16 = .ok (.iload_n 1, 1) := by decide +kernel
theorem d0_setParameter_17 : decode b0_setParameter 17 = .ok (.lconst 0, 1) := by decide +kernel
theorem d0_setParameter_18 : decode b0_setParameter 18 = .ok (.iload_n 2, 1) := by decide +kernel
theorem d0_setParameter_19 : decode b0_setParameter 19 = .ok (.i2d, 1) := by decide +kernel
theorem d0_setParameter_20 : decode b0_setParameter 20 = .ok (.ldc2_w 50, 3) := by decide +kernel
theorem d0_setParameter_23 : decode b0_setParameter 23 = .ok (.dmul, 1) := by decide +kernel
theorem d0_setParameter_24 : decode b0_setParameter 24 = .ok (.invokevirtual 52, 3) := by decide +kernel
theorem d0_setParameter_27 : decode b0_setParameter 27 = .ok (.goto 14, 3) := by decide +kernel
theorem d0_setParameter_30 : decode b0_setParameter 30 = .ok (.aload_n 0, 1) := by decide +kernel
theorem d0_setParameter_31 : decode b0_setParameter 31 = .ok (.getfield 20, 3) := by decide +kernel
theorem d0_setParameter_34 : decode b0_setParameter 34 = .ok (.iload_n 1, 1) := by decide +kernel
theorem d0_setParameter_35 : decode b0_setParameter 35 = .ok (.iload_n 2, 1) := by decide +kernel
theorem d0_setParameter_36 : decode b0_setParameter 36 = .ok (.i2l, 1) := by decide +kernel
theorem d0_setParameter_37 : decode b0_setParameter 37 = .ok (.dconst 0, 1) := by decide +kernel
theorem d0_setParameter_38 : decode b0_setParameter 38 = .ok (.invokevirtual 52, 3) := by decide +kernel
theorem d0_setParameter_41 : decode b0_setParameter 41 = .ok (.return_, 1) := by decide +kernel
theorem d0_takeParametersFrom_0 : decode b0_takeParametersFrom 0 = .ok (.aload_n 1, 1) := by decide +kernel
theorem d0_takeParametersFrom_1 : decode b0_takeParametersFrom 1 = .ok (.invokevirtual 56, 3) := by decide +kernel
theorem d0_takeParametersFrom_4 : decode b0_takeParametersFrom 4 = .ok (.aload_n 0, 1) := by decide +kernel
theorem d0_takeParametersFrom_5 : decode b0_takeParametersFrom 5 = .ok (.getfield 30, 3) := by decide +kernel
theorem d0_takeParametersFrom_8 : decode b0_takeParametersFrom 8 = .ok (.invokevirtual 60, 3) := by decide +kernel
theorem d0_takeParametersFrom_11 : decode b0_takeParametersFrom 11 = .ok (.isub, 1) := by decide +kernel
theorem d0_takeParametersFrom_12 : decode b0_takeParametersFrom 12 = .ok (.istore_n 2, 1) := by decide +kernel
theorem d0_takeParametersFrom_13 : decode b0_takeParametersFrom 13 = .ok (.iconst 0, 1) := by decide +kernel
theorem d0_takeParametersFrom_14 : decode b0_takeParametersFrom 14 = .ok (.istore_n 3, 1) := by decide +kernel
theorem d0_takeParametersFrom_15 : decode b0_takeParametersFrom 15 = .ok (.iload_n 3, 1) := by decide +kernel
theorem d0_takeParametersFrom_16 : decode b0_takeParametersFrom 16 = .ok (.aload_n 0, 1) := by decide +kernel
theorem d0_takeParametersFrom_17 : decode b0_takeParametersFrom 17 = .ok (.getfield 30, 3) := by decide +kernel
theorem d0_takeParametersFrom_20 : decode b0_takeParametersFrom 20 = .ok (.invokevirtual 60, 3) := by decide +kernel
theorem d0_takeParametersFrom_23 : decode b0_takeParametersFrom 23 = .ok (.if_icmp .ge 21, 3) := by decide +kernel
theorem d0_takeParametersFrom_26 : decode b0_takeParametersFrom 26 = .ok (.aload_n 0, 1) := by decide +kernel
theorem d0_takeParametersFrom_27 : decode b0_takeParametersFrom 27 = .ok (.getfield 20, 3) := by decide +kernel
theorem d0_takeParametersFrom_30 : decode b0_takeParametersFrom 30 = .ok (.iload_n 3, 1) := by decide +kernel
theorem d0_takeParametersFrom_31 : decode b0_takeParametersFrom 31 = .ok (.aload_n 1, 1) := by decide +kernel
theorem d0_takeParametersFrom_32 : decode b0_takeParametersFrom 32 = .ok (.iload_n 2, 1) := by decide +kernel
theorem d0_takeParametersFrom_33 : decode b0_takeParametersFrom 33 = .ok (.iload_n 3, 1) := by decide +kernel
theorem d0_takeParametersFrom_34 : decode b0_takeParametersFrom 34 = .ok (.iadd, 1) := by decide +kernel
theorem d0_takeParametersFrom_35 : decode b0_takeParametersFrom 35 = .ok (.invokevirtual 63, 3) := by decide +kernel
theorem d0_takeParametersFrom_38 : decode b0_takeParametersFrom 38 = .ok (.iinc 3 1, 3) := by decide +kernel
theorem d0_takeParametersFrom_41 : decode b0_takeParametersFrom 41 = .ok (.goto (-26), 3) := by decide +kernel
theorem d0_takeParametersFrom_44 : decode b0_takeParametersFrom 44 = .ok (.aload_n 1, 1) := by decide +kernel
theorem d0_takeParametersFrom_45 : decode b0_takeParametersFrom 45 = .ok (.iload_n 2, 1) := by decide +kernel
theorem d0_takeParametersFrom_46 : decode b0_takeParametersFrom 46 = .ok (.invokevirtual 67, 3) := by decide +kernel
theorem d0_takeParametersFrom_49 : decode b0_takeParametersFrom 49 = .ok (.return_, 1) := by decide +kernel
theorem d0_beginFrame_0 : decode b0_beginFrame 0 = .ok (.aload_n 0, 1) := by decide +kernel
theorem d0_beginFrame_1 : decode b0_beginFrame 1 = .ok (.getfield 38, 3) := by decide +kernel
theorem d0_beginFrame_4 : decode b0_beginFrame 4 = .ok (.ifCond .lt 48, 3) := by decide +kernel
theorem d0_beginFrame_7 : decode b0_beginFrame 7 = .ok (.aload_n 0, 1) := by decide +kernel
theorem d0_beginFrame_8 : decode b0_beginFrame 8 = .ok (.getfield 38, 3) := by decide +kernel
theorem d0_beginFrame_11 : decode b0_beginFrame 11 = .ok (.bipush 8, 2) := by decide +kernel
theorem d0_beginFrame_13 : decode b0_beginFrame 13 = .ok (.if_icmp .ge 39, 3) := by decide +kernel
theorem d0_beginFrame_16 : decode b0_beginFrame 16 = .ok (.aload_n 0, 1) := by decide +kernel
theorem d0_beginFrame_17 : decode b0_beginFrame 17 = .ok (.getfield 23, 3) := by decide +kernel
theorem d0_beginFrame_20 : decode b0_beginFrame 20 = .ok (.aload_n 0, 1) := by decide +kernel
theorem d0_beginFrame_21 : decode b0_beginFrame 21 = .ok (.getfield 38, 3) := by decide +kernel
theorem d0_beginFrame_24 : decode b0_beginFrame 24 = .ok (.iload_n 1, 1) := by decide +kernel
theorem d0_beginFrame_25 : decode b0_beginFrame 25 = .ok (.iastore, 1) := by decide +kernel
theorem d0_beginFrame_26 : decode b0_beginFrame 26 = .ok (.aload_n 0, 1) := by decide +kernel
theorem d0_beginFrame_27 : decode b0_beginFrame 27 = .ok (.getfield 27, 3) := by decide +kernel
theorem d0_beginFrame_30 : decode b0_beginFrame 30 = .ok (.aload_n 0, 1) := by decide +kernel
theorem d0_beginFrame_31 : decode b0_beginFrame 31 = .ok (.getfield 38, 3) := by decide +kernel
theorem d0_beginFrame_34 : decode b0_beginFrame 34 = .ok (.aload_n 0, 1) := by decide +kernel
theorem d0_beginFrame_35 : decode b0_beginFrame 35 = .ok (.getfield 14, 3) := by decide +kernel
theorem d0_beginFrame_38 : decode b0_beginFrame 38 = .ok (.invokevirtual 56, 3) := by decide +kernel
theorem d0_beginFrame_41 : decode b0_beginFrame 41 = .ok (.iastore, 1) := by decide +kernel
theorem d0_beginFrame_42 : decode b0_beginFrame 42 = .ok (.aload_n 0, 1) := by decide +kernel
theorem d0_beginFrame_43 : decode b0_beginFrame 43 = .ok (.dup, 1) := by decide +kernel
theorem d0_beginFrame_44 : decode b0_beginFrame 44 = .ok (.getfield 38, 3) := by decide +kernel
theorem d0_beginFrame_47 : decode b0_beginFrame 47 = .ok (.iconst 1, 1) := by decide +kernel
theorem d0_beginFrame_48 : decode b0_beginFrame 48 = .ok (.iadd, 1) := by decide +kernel
theorem d0_beginFrame_49 : decode b0_beginFrame 49 = .ok (.putfield 38, 3) := by decide +kernel
theorem d0_beginFrame_52 : decode b0_beginFrame 52 = .ok (.return_, 1) := by decide +kernel
theorem d0_beginIf_0 : decode b0_beginIf 0 = .ok (.aload_n 0, 1) := by decide +kernel
theorem d0_beginIf_1 : decode b0_beginIf 1 = .ok (.getfield 14, 3) := by decide +kernel
theorem d0_beginIf_4 : decode b0_beginIf 4 = .ok (.invokevirtual 70, 3) := by decide +kernel
theorem d0_beginIf_7 : decode b0_beginIf 7 = .ok (.ifCond .eq 11, 3) := by decide +kernel
theorem d0_beginIf_10 : decode b0_beginIf 10 = .ok (.aload_n 0, 1) := by decide +kernel
theorem d0_beginIf_11 : decode b0_beginIf 11 = .ok (.iload_n 1, 1) := by decide +kernel
theorem d0_beginIf_12 : decode b0_beginIf 12 = .ok (.invokevirtual 73, 3) := by decide +kernel
theorem d0_beginIf_15 : decode b0_beginIf 15 = .ok (.goto 46, 3) := by decide +kernel
theorem d0_beginIf_18 : decode b0_beginIf 18 = .ok (.aload_n 0, 1) := by decide +kernel
theorem d0_beginIf_19 : decode b0_beginIf 19 = .ok (.getfield 30, 3) := by decide +kernel
theorem d0_beginIf_22 : decode b0_beginIf 22 = .ok (.iload_n 1, 1) := by decide +kernel
theorem d0_beginIf_23 : decode b0_beginIf 23 = .ok (.invokevirtual 76, 3) := by decide +kernel
theorem d0_beginIf_26 : decode b0_beginIf 26 = .ok (.ifCond .eq 23, 3) := by decide +kernel
theorem d0_beginIf_29 : decode b0_beginIf 29 = .ok (.aload_n 0, 1) := by decide +kernel
theorem d0_beginIf_30 : decode b0_beginIf 30 = .ok (.iload_n 1, 1) := by decide +kernel
theorem d0_beginIf_31 : decode b0_beginIf 31 = .ok (.invokevirtual 73, 3) := by decide +kernel
theorem d0_beginIf_34 : decode b0_beginIf 34 = .ok (.aload_n 0, 1) := by decide +kernel
theorem d0_beginIf_35 : decode b0_beginIf 35 = .ok (.aload_n 0, 1) := by decide +kernel
theorem d0_beginIf_36 : decode b0_beginIf 36 = .ok (.getfield 30, 3) := by decide +kernel
theorem d0_beginIf_39 : decode b0_beginIf 39 = .ok (.iload_n 1, 1) := by decide +kernel
theorem d0_beginIf_40 : decode b0_beginIf 40 = .ok (.invokevirtual 76, 3) := by decide +kernel
theorem d0_beginIf_43 : decode b0_beginIf 43 = .ok (.putfield 34, 3) := by decide +kernel
theorem d0_beginIf_46 : decode b0_beginIf 46 = .ok (.goto 15, 3) := by decide +kernel
theorem d0_beginIf_49 : decode b0_beginIf 49 = .ok (.aload_n 0, 1) := by decide +kernel
theorem d0_beginIf_50 : decode b0_beginIf 50 = .ok (.aload_n 0, 1) := by decide +kernel
theorem d0_beginIf_51 : decode b0_beginIf 51 = .ok (.getfield 30, 3) := by decide +kernel
theorem d0_beginIf_54 : decode b0_beginIf 54 = .ok (.iload_n 1, 1) := by decide +kernel
theorem d0_beginIf_55 : decode b0_beginIf 55 = .ok (.invokevirtual 79, 3) := by decide +kernel
theorem d0_beginIf_58 : decode b0_beginIf 58 = .ok (.putfield 34, 3) := by decide +kernel
theorem d0_beginIf_61 : decode b0_beginIf 61 = .ok (.return_, 1) := by decide +kernel
theorem d0_endFrame_0 : decode b0_endFrame 0 = .ok (.aload_n 0, 1) := by decide +kernel
theorem d0_endFrame_1 : decode b0_endFrame 1 = .ok (.dup, 1) := by decide +kernel
theorem d0_endFrame_2 : decode b0_endFrame 2 = .ok (.getfield 38, 3) := by decide +kernel
theorem d0_endFrame_5 : decode b0_endFrame 5 = .ok (.iconst 1, 1) := by decide +kernel
theorem d0_endFrame_6 : decode b0_endFrame 6 = .ok (.isub, 1) := by decide +kernel
theorem d0_endFrame_7 : decode b0_endFrame 7 = .ok (.putfield 38, 3) := by decide +kernel
theorem d0_endFrame_10 : decode b0_endFrame 10 = .ok (.return_, 1) := by decide +kernel
theorem d0_goBehindEnd_0 : decode b0_goBehindEnd 0 = .ok (.aload_n 0, 1) := by decide +kernel
theorem d0_goBehindEnd_1 : decode b0_goBehindEnd 1 = .ok (.dup, 1) := by decide +kernel
theorem d0_goBehindEnd_2 : decode b0_goBehindEnd 2 = .ok (.getfield 38, 3) := by decide +kernel
theorem d0_goBehindEnd_5 : decode b0_goBehindEnd 5 = .ok (.iconst 1, 1) := by decide +kernel
theorem d0_goBehindEnd_6 : decode b0_goBehindEnd 6 = .ok (.isub, 1) := by decide +kernel
theorem d0_goBehindEnd_7 : decode b0_goBehindEnd 7 = .ok (.putfield 38, 3) := by decide +kernel
theorem d0_goBehindEnd_10 : decode b0_goBehindEnd 10 = .ok (.aload_n 0, 1) := by decide +kernel
theorem d0_goBehindEnd_11 : decode b0_goBehindEnd 11 = .ok (.getfield 38, 3) := by decide +kernel
theorem d0_goBehindEnd_14 : decode b0_goBehindEnd 14 = .ok (.ifCond .lt 32, 3) := by decide +kernel
theorem d0_goBehindEnd_17 : decode b0_goBehindEnd 17 = .ok (.aload_n 0, 1) := by decide +kernel
theorem d0_goBehindEnd_18 : decode b0_goBehindEnd 18 = .ok (.getfield 38, 3) := by decide +kernel
theorem d0_goBehindEnd_21 : decode b0_goBehindEnd 21 = .ok (.bipush 8, 2) := by decide +kernel
theorem d0_goBehindEnd_23 : decode b0_goBehindEnd 23 = .ok (.if_icmp .ge 23, 3) := by decide +kernel
theorem d0_goBehindEnd_26 : decode b0_goBehindEnd 26 = .ok (.aload_n 0, 1) := by decide +kernel
theorem d0_goBehindEnd_27 : decode b0_goBehindEnd 27 = .ok (.aload_n 0, 1) := by decide +kernel
theorem d0_goBehindEnd_28 : decode b0_goBehindEnd 28 = .ok (.getfield 30, 3) := by decide +kernel
theorem d0_goBehindEnd_31 : decode b0_goBehindEnd 31 = .ok (.aload_n 0, 1) := by decide +kernel
theorem d0_goBehindEnd_32 : decode b0_goBehindEnd 32 = .ok (.getfield 23, 3) := by decide +kernel
theorem d0_goBehindEnd_35 : decode b0_goBehindEnd 35 = .ok (.aload_n 0, 1) := by decide +kernel
theorem d0_goBehindEnd_36 : decode b0_goBehindEnd 36 = .ok (.getfield 38, 3) := by decide +kernel
theorem d0_goBehindEnd_39 : decode b0_goBehindEnd 39 = .ok (.iaload, 1) := by decide +kernel
theorem d0_goBehindEnd_40 : decode b0_goBehindEnd 40 = .ok (.invokevirtual 79, 3) := by decide +kernel
theorem d0_goBehindEnd_43 : decode b0_goBehindEnd 43 = .ok (.putfield 34, 3) := by decide +kernel
theorem d0_goBehindEnd_46 : decode b0_goBehindEnd 46 = .ok (.return_, 1) := by decide +kernel
theorem d0_jumpsWithin_0 : decode b0_jumpsWithin 0 = .ok (.aload_n 0, 1) := by decide +kernel
theorem d0_jumpsWithin_1 : decode b0_jumpsWithin 1 = .ok (.getfield 38, 3) := by decide +kernel
theorem d0_jumpsWithin_4 : decode b0_jumpsWithin 4 = .ok (.iconst 1, 1) := by decide +kernel
theorem d0_jumpsWithin_5 : decode b0_jumpsWithin 5 = .ok (.isub, 1) := by decide +kernel
theorem d0_jumpsWithin_6 : decode b0_jumpsWithin 6 = .ok (.iload_n 1, 1) := by decide +kernel
theorem d0_jumpsWithin_7 : decode b0_jumpsWithin 7 = .ok (.isub, 1) := by decide +kernel
theorem d0_jumpsWithin_8 : decode b0_jumpsWithin 8 = .ok (.istore_n 2, 1) := by decide +kernel
theorem d0_jumpsWithin_9 : decode b0_jumpsWithin 9 = .ok (.iload_n 2, 1) := by decide +kernel
theorem d0_jumpsWithin_10 : decode b0_jumpsWithin 10 = .ok (.ifCond .le 9, 3) := by decide +kernel
theorem d0_jumpsWithin_13 : decode b0_jumpsWithin 13 = .ok (.iload_n 2, 1) := by decide +kernel
theorem d0_jumpsWithin_14 : decode b0_jumpsWithin 14 = .ok (.bipush 8, 2) := by decide +kernel
theorem d0_jumpsWithin_16 : decode b0_jumpsWithin 16 = .ok (.if_icmp .lt 5, 3) := by decide +kernel
theorem d0_jumpsWithin_19 : decode b0_jumpsWithin 19 = .ok (.iconst 0, 1) := by decide +kernel
theorem d0_jumpsWithin_20 : decode b0_jumpsWithin 20 = .ok (.ireturn, 1) := by decide +kernel
theorem d0_jumpsWithin_21 : decode b0_jumpsWithin 21 = .ok (.aload_n 0, 1) := by decide +kernel
theorem d0_jumpsWithin_22 : decode b0_jumpsWithin 22 = .ok (.getfield 23, 3) := by decide +kernel
theorem d0_jumpsWithin_25 : decode b0_jumpsWithin 25 = .ok (.iload_n 2, 1) := by decide +kernel
theorem d0_jumpsWithin_26 : decode b0_jumpsWithin 26 = .ok (.iaload, 1) := by decide +kernel
theorem d0_jumpsWithin_27 : decode b0_jumpsWithin 27 = .ok (.istore_n 3, 1) := by decide +kernel
theorem d0_jumpsWithin_28 : decode b0_jumpsWithin 28 = .ok (.aload_n 0, 1) := by decide +kernel
theorem d0_jumpsWithin_29 : decode b0_jumpsWithin 29 = .ok (.getfield 30, 3) := by decide +kernel
theorem d0_jumpsWithin_32 : decode b0_jumpsWithin 32 = .ok (.iload_n 3, 1) := by decide +kernel
theorem d0_jumpsWithin_33 : decode b0_jumpsWithin 33 = .ok (.invokevirtual 82, 3) := by decide +kernel
theorem d0_jumpsWithin_36 : decode b0_jumpsWithin 36 = .ok (.iconst 3, 1) := by decide +kernel
theorem d0_jumpsWithin_37 : decode b0_jumpsWithin 37 = .ok (.if_icmp .ne 32, 3) := by decide +kernel
theorem d0_jumpsWithin_40 : decode b0_jumpsWithin 40 = .ok (.aload_n 0, 1) := by decide +kernel
theorem d0_jumpsWithin_41 : decode b0_jumpsWithin 41 = .ok (.getfield 14, 3) := by decide +kernel
theorem d0_jumpsWithin_44 : decode b0_jumpsWithin 44 = .ok (.aload_n 0, 1) := by decide +kernel
theorem d0_jumpsWithin_45 : decode b0_jumpsWithin 45 = .ok (.getfield 27, 3) := by decide +kernel
theorem d0_jumpsWithin_48 : decode b0_jumpsWithin 48 = .ok (.iload_n 2, 1) := by decide +kernel
theorem d0_jumpsWithin_49 : decode b0_jumpsWithin 49 = .ok (.iaload, 1) := by decide +kernel
theorem d0_jumpsWithin_50 : decode b0_jumpsWithin 50 = .ok (.invokevirtual 67, 3) := by decide +kernel
theorem d0_jumpsWithin_53 : decode b0_jumpsWithin 53 = .ok (.aload_n 0, 1) := by decide +kernel
theorem d0_jumpsWithin_54 : decode b0_jumpsWithin 54 = .ok (.iload_n 3, 1) := by decide +kernel
theorem d0_jumpsWithin_55 : decode b0_jumpsWithin 55 = .ok (.iconst 2, 1) := by decide +kernel
theorem d0_jumpsWithin_56 : decode b0_jumpsWithin 56 = .ok (.iadd, 1) := by decide +kernel
theorem d0_jumpsWithin_57 : decode b0_jumpsWithin 57 = .ok (.putfield 34, 3) := by decide +kernel
theorem d0_jumpsWithin_60 : decode b0_jumpsWithin 60 = .ok (.aload_n 0, 1) := by decide +kernel
theorem d0_jumpsWithin_61 : decode b0_jumpsWithin 61 = .ok (.iload_n 2, 1) := by decide +kernel
theorem d0_jumpsWithin_62 : decode b0_jumpsWithin 62 = .ok (.iconst 1, 1) := by decide +kernel
theorem d0_jumpsWithin_63 : decode b0_jumpsWithin 63 = .ok (.iadd, 1) := by decide +kernel
theorem d0_jumpsWithin_64 : decode b0_jumpsWithin 64 = .ok (.putfield 38, 3) := by decide +kernel
theorem d0_jumpsWithin_67 : decode b0_jumpsWithin 67 = .ok (.iconst 1, 1) := by decide +kernel
theorem d0_jumpsWithin_68 : decode b0_jumpsWithin 68 = .ok (.ireturn, 1) := by decide +kernel
theorem d0_jumpsWithin_69 : decode b0_jumpsWithin 69 = .ok (.aload_n 0, 1) := by decide +kernel
theorem d0_jumpsWithin_70 : decode b0_jumpsWithin 70 = .ok (.getfield 14, 3) := by decide +kernel
theorem d0_jumpsWithin_73 : decode b0_jumpsWithin 73 = .ok (.invokevirtual 56, 3) := by decide +kernel
theorem d0_jumpsWithin_76 : decode b0_jumpsWithin 76 = .ok (.iconst 1, 1) := by decide +kernel
theorem d0_jumpsWithin_77 : decode b0_jumpsWithin 77 = .ok (.isub, 1) := by decide +kernel
theorem d0_jumpsWithin_78 : decode b0_jumpsWithin 78 = .ok (.istore 4, 2) := by decide +kernel
theorem d0_jumpsWithin_80 : decode b0_jumpsWithin 80 = .ok (.aload_n 0, 1) := by decide +kernel
theorem d0_jumpsWithin_81 : decode b0_jumpsWithin 81 = .ok (.getfield 14, 3) := by decide +kernel
theorem d0_jumpsWithin_84 : decode b0_jumpsWithin 84 = .ok (.aload_n 0, 1) := by decide +kernel
theorem d0_jumpsWithin_85 : decode b0_jumpsWithin 85 = .ok (.getfield 27, 3) := by decide +kernel
theorem d0_jumpsWithin_88 : decode b0_jumpsWithin 88 = .ok (.iload_n 2, 1) := by decide +kernel
theorem d0_jumpsWithin_89 : decode b0_jumpsWithin 89 = .ok (.iaload, 1) := by decide +kernel
theorem d0_jumpsWithin_90 : decode b0_jumpsWithin 90 = .ok (.invokevirtual 67, 3) := by decide +kernel
theorem d0_jumpsWithin_93 : decode b0_jumpsWithin 93 = .ok (.aload_n 0, 1) := by decide +kernel
theorem d0_jumpsWithin_94 : decode b0_jumpsWithin 94 = .ok (.getfield 30, 3) := by decide +kernel
theorem d0_jumpsWithin_97 : decode b0_jumpsWithin 97 = .ok (.iload_n 3, 1) := by decide +kernel
theorem d0_jumpsWithin_98 : decode b0_jumpsWithin 98 = .ok (.iconst 1, 1) := by decide +kernel
theorem d0_jumpsWithin_99 : decode b0_jumpsWithin 99 = .ok (.iadd, 1) := by decide +kernel
theorem d0_jumpsWithin_100 : decode b0_jumpsWithin 100 = .ok (.invokevirtual 82, 3) := by decide +kernel
theorem d0_jumpsWithin_103 : decode b0_jumpsWithin 103 = .ok (.ifCond .eq 16, 3) := by decide +kernel
theorem d0_jumpsWithin_106 : decode b0_jumpsWithin 106 = .ok (.aload_n 0, 1) := by decide +kernel
theorem d0_jumpsWithin_107 : decode b0_jumpsWithin 107 = .ok (.getfield 14, 3) := by decide +kernel
theorem d0_jumpsWithin_110 : decode b0_jumpsWithin 110 = .ok (.aload_n 0, 1) := by decide +kernel
theorem d0_jumpsWithin_111 : decode b0_jumpsWithin 111 = .ok (.getfield 14, 3) := by decide +kernel
theorem d0_jumpsWithin_114 : decode b0_jumpsWithin 114 = .ok (.iload 4, 2) := by decide +kernel
theorem d0_jumpsWithin_116 : decode b0_jumpsWithin 116 = .ok (.invokevirtual 87, 3) := by decide +kernel
theorem d0_jumpsWithin_119 : decode b0_jumpsWithin 119 = .ok (.aload_n 0, 1) := by decide +kernel
theorem d0_jumpsWithin_120 : decode b0_jumpsWithin 120 = .ok (.aload_n 0, 1) := by decide +kernel
theorem d0_jumpsWithin_121 : decode b0_jumpsWithin 121 = .ok (.getfield 30, 3) := by decide +kernel
theorem d0_jumpsWithin_124 : decode b0_jumpsWithin 124 = .ok (.iload_n 3, 1) := by decide +kernel
theorem d0_jumpsWithin_125 : decode b0_jumpsWithin 125 = .ok (.invokevirtual 79, 3) := by decide +kernel
theorem d0_jumpsWithin_128 : decode b0_jumpsWithin 128 = .ok (.putfield 34, 3) := by decide +kernel
theorem d0_jumpsWithin_131 : decode b0_jumpsWithin 131 = .ok (.aload_n 0, 1) := by decide +kernel
theorem d0_jumpsWithin_132 : decode b0_jumpsWithin 132 = .ok (.iload_n 2, 1) := by decide +kernel
theorem d0_jumpsWithin_133 : decode b0_jumpsWithin 133 = .ok (.putfield 38, 3) := by decide +kernel
theorem d0_jumpsWithin_136 : decode b0_jumpsWithin 136 = .ok (.iconst 1, 1) := by decide +kernel
theorem d0_jumpsWithin_137 : decode b0_jumpsWithin 137 = .ok (.ireturn, 1) := by decide +kernel
theorem d1_init_0 : decode b1_init 0 = .ok (.aload_n 0, 1) := by decide +kernel
theorem d1_init_1 : decode b1_init 1 = .ok (.invokespecial 1, 3) := by decide +kernel
theorem d1_init_4 : decode b1_init 4 = .ok (.aload_n 0, 1) := by decide +kernel
theorem d1_init_5 : decode b1_init 5 = .ok (.iload_n 1, 1) := by decide +kernel
theorem d1_init_6 : decode b1_init 6 = .ok (.newarray .long, 2) := by decide +kernel
theorem d1_init_8 : decode b1_init 8 = .ok (.putfield 7, 3) := by decide +kernel
theorem d1_init_11 : decode b1_init 11 = .ok (.aload_n 0, 1) := by decide +kernel
theorem d1_init_12 : decode b1_init 12 = .ok (.iload_n 1, 1) := by decide +kernel
theorem d1_init_13 : decode b1_init 13 = .ok (.newarray .double, 2) := by decide +kernel
theorem d1_init_15 : decode b1_init 15 = .ok (.putfield 13, 3) := by decide +kernel
theorem d1_init_18 : decode b1_init 18 = .ok (.return_, 1) := by decide +kernel
theorem d1_clear_0 : decode b1_clear 0 = .ok (.iconst 0, 1) := by decide +kernel
theorem d1_clear_1 : decode b1_clear 1 = .ok (.istore_n 1, 1) := by decide +kernel
theorem d1_clear_2 : decode b1_clear 2 = .ok (.iload_n 1, 1) := by decide +kernel
theorem d1_clear_3 : decode b1_clear 3 = .ok (.aload_n 0, 1) := by decide +kernel
theorem d1_clear_4 : decode b1_clear 4 = .ok (.getfield 7, 3) := by decide +kernel
theorem d1_clear_7 : decode b1_clear 7 = .ok (.arraylength, 1) := by decide +kernel
theorem d1_clear_8 : decode b1_clear 8 = .ok (.if_icmp .ge 16, 3) := by decide +kernel
theorem d1_clear_11 : decode b1_clear 11 = .ok (.aload_n 0, 1) := by decide +kernel
theorem d1_clear_12 : decode b1_clear 12 = .ok (.iload_n 1, 1) := by decide +kernel
theorem d1_clear_13 : decode b1_clear 13 = .ok (.lconst 0, 1) := by decide +kernel
theorem d1_clear_14 : decode b1_clear 14 = .ok (.dconst 0, 1) := by decide +kernel
theorem d1_clear_15 : decode b1_clear 15 = .ok (.invokevirtual 17, 3) := by decide +kernel
theorem d1_clear_18 : decode b1_clear 18 = .ok (.iinc 1 1, 3) := by decide +kernel
theorem d1_clear_21 : decode b1_clear 21 = .ok (.goto (-19), 3) := by decide +kernel
theorem d1_clear_24 : decode b1_clear 24 = .ok (.aload_n 0, 1) := by decide +kernel
theorem d1_clear_25 : decode b1_clear 25 = .ok (.iconst 0, 1) := by decide +kernel
theorem d1_clear_26 : decode b1_clear 26 = .ok (.putfield 21, 3) := by decide +kernel
theorem d1_clear_29 : decode b1_clear 29 = .ok (.return_, 1) := by decide +kernel
theorem d1_height_0 : decode b1_height 0 = .ok (.aload_n 0, 1) := by decide +kernel
theorem d1_height_1 : decode b1_height 1 = .ok (.getfield 21, 3) := by decide +kernel
theorem d1_height_4 : decode b1_height 4 = .ok (.ireturn, 1) := by decide +kernel
theorem d1_numberAt_0 : decode b1_numberAt 0 = .ok (.iload_n 1, 1) := by decide +kernel
theorem d1_numberAt_1 : decode b1_numberAt 1 = .ok (.ifCond .lt 21, 3) := by decide +kernel
theorem d1_numberAt_4 : decode b1_numberAt 4 = .ok (.iload_n 1, 1) := by decide +kernel
theorem d1_numberAt_5 : decode b1_numberAt 5 = .ok (.aload_n 0, 1) := by decide +kernel
theorem d1_numberAt_6 : decode b1_numberAt 6 = .ok (.getfield 7, 3) := by decide +kernel
theorem d1_numberAt_9 : decode b1_numberAt 9 = .ok (.arraylength, 1) := by decide +kernel
theorem d1_numberAt_10 : decode b1_numberAt 10 = .ok (.if_icmp .ge 12, 3) := by decide +kernel
theorem d1_numberAt_13 : decode b1_numberAt 13 = .ok (.aload_n 0, 1) := by decide +kernel
theorem d1_numberAt_14 : decode b1_numberAt 14 = .ok (.getfield 7, 3) := by decide +kernel
theorem d1_numberAt_17 : decode b1_numberAt 17 = .ok (.iload_n 1, 1) := by decide +kernel
theorem d1_numberAt_18 : decode b1_numberAt 18 = .ok (.laload, 1) := by decide +kernel
theorem d1_numberAt_19 : decode b1_numberAt 19 = .ok (.goto 4, 3) := by decide +kernel
theorem d1_numberAt_22 : decode b1_numberAt 22 = .ok (.lconst 0, 1) := by decide +kernel
theorem d1_numberAt_23 : decode b1_numberAt 23 = .ok (.lreturn, 1) := by decide +kernel
theorem d1_realAt_0 : decode b1_realAt 0 = .ok (.iload_n 1, 1) := by decide +kernel
theorem d1_realAt_1 : decode b1_realAt 1 = .ok (.ifCond .lt 21, 3) := by decide +kernel
theorem d1_realAt_4 : decode b1_realAt 4 = .ok (.iload_n 1, 1) := by decide +kernel
theorem d1_realAt_5 : decode b1_realAt 5 = .ok (.aload_n 0, 1) := by decide +kernel
theorem d1_realAt_6 : decode b1_realAt 6 = .ok (.getfield 13, 3) := by decide +kernel
theorem d1_realAt_9 : decode b1_realAt 9 = .ok (.arraylength, 1) := by decide +kernel
theorem d1_realAt_10 : decode b1_realAt 10 = .ok (.if_icmp .ge 12, 3) := by decide +kernel
theorem d1_realAt_13 : decode b1_realAt 13 = .ok (.aload_n 0, 1) := by decide +kernel
theorem d1_realAt_14 : decode b1_realAt 14 = .ok (.getfield 13, 3) := by decide +kernel
theorem d1_realAt_17 : decode b1_realAt 17 = .ok (.iload_n 1, 1) := by decide +kernel
theorem d1_realAt_18 : decode b1_realAt 18 = .ok (.daload, 1) := by decide +kernel
theorem d1_realAt_19 : decode b1_realAt 19 = .ok (.goto 4, 3) := by decide +kernel
theorem d1_realAt_22 : decode b1_realAt 22 = .ok (.dconst 0, 1) := by decide +kernel
theorem d1_realAt_23 : decode b1_realAt 23 = .ok (.dreturn, 1) := by decide +kernel
theorem d1_set_0 : decode b1_set 0 = .ok (.iload_n 1, 1) := by decide +kernel
theorem d1_set_1 : decode b1_set 1 = .ok (.ifCond .lt 36, 3) := by decide +kernel
theorem d1_set_4 : decode b1_set 4 = .ok (.iload_n 1, 1) := by decide +kernel
theorem d1_set_5 : decode b1_set 5 = .ok (.aload_n 0, 1) := by decide +kernel
theorem d1_set_6 : decode b1_set 6 = .ok (.getfield 7, 3) := by decide +kernel
theorem d1_set_9 : decode b1_set 9 = .ok (.arraylength, 1) := by decide +kernel
theorem d1_set_10 : decode b1_set 10 = .ok (.if_icmp .ge 27, 3) := by decide +kernel
theorem d1_set_13 : decode b1_set 13 = .ok (.iload_n 1, 1) := by decide +kernel
theorem d1_set_14 : decode b1_set 14 = .ok (.aload_n 0, 1) := by decide +kernel
theorem d1_set_15 : decode b1_set 15 = .ok (.getfield 13, 3) := by decide +kernel
theorem d1_set_18 : decode b1_set 18 = .ok (.arraylength, 1) := by decide +kernel
theorem d1_set_19 : decode b1_set 19 = .ok (.if_icmp .ge 18, 3) := by decide +kernel
theorem d1_set_22 : decode b1_set 22 = .ok (.aload_n 0, 1) := by decide +kernel
theorem d1_set_23 : decode b1_set 23 = .ok (.getfield 7, 3) := by decide +kernel
theorem d1_set_26 : decode b1_set 26 = .ok (.iload_n 1, 1) := by decide +kernel
theorem d1_set_27 : decode b1_set 27 = .ok (.lload_n 2, 1) := by decide +kernel
theorem d1_set_28 : decode b1_set 28 = .ok (.lastore, 1) := by decide +kernel
theorem d1_set_29 : decode b1_set 29 = .ok (.aload_n 0, 1) := by decide +kernel
theorem d1_set_30 : decode b1_set 30 = .ok (.getfield 13, 3) := by decide +kernel
theorem d1_set_33 : decode b1_set 33 = .ok (.iload_n 1, 1) := by decide +kernel
theorem d1_set_34 : decode b1_set 34 = .ok (.dload 4, 2) := by decide +kernel
theorem d1_set_36 : decode b1_set 36 = .ok (.dastore, 1) := by decide +kernel
theorem d1_set_37 : decode b1_set 37 = .ok (.return_, 1) := by decide +kernel
theorem d1_setFrom_0 : decode b1_setFrom 0 = .ok (.aload_n 0, 1) := by decide +kernel
theorem d1_setFrom_1 : decode b1_setFrom 1 = .ok (.iload_n 1, 1) := by decide +kernel
theorem d1_setFrom_2 : decode b1_setFrom 2 = .ok (.aload_n 2, 1) := by decide +kernel
theorem d1_setFrom_3 : decode b1_setFrom 3 = .ok (.iload_n 3, 1) := by decide +kernel
theorem d1_setFrom_4 : decode b1_setFrom 4 = .ok (.invokevirtual 25, 3) := by decide +kernel
theorem d1_setFrom_7 : decode b1_setFrom 7 = .ok (.aload_n 2, 1) := by decide +kernel
theorem d1_setFrom_8 : decode b1_setFrom 8 = .ok (.iload_n 3, 1) := by decide +kernel
theorem d1_setFrom_9 : decode b1_setFrom 9 = .ok (.invokevirtual 29, 3) := by decide +kernel
theorem d1_setFrom_12 : decode b1_setFrom 12 = .ok (.invokevirtual 17, 3) := by decide +kernel
theorem d1_setFrom_15 : decode b1_setFrom 15 = .ok (.return_, 1) := by decide +kernel
theorem d1_put_0 : decode b1_put 0 = .ok (.aload_n 0, 1) := by decide +kernel
theorem d1_put_1 : decode b1_put 1 = .ok (.getfield 21, 3) := by decide +kernel
theorem d1_put_4 : decode b1_put 4 = .ok (.ifCond .lt 57, 3) := by decide +kernel
theorem d1_put_7 : decode b1_put 7 = .ok (.aload_n 0, 1) := by decide +kernel
theorem d1_put_8 : decode b1_put 8 = .ok (.getfield 21, 3) := by decide +kernel
theorem d1_put_11 : decode b1_put 11 = .ok (.aload_n 0, 1) := by decide +kernel
theorem d1_put_12 : decode b1_put 12 = .ok (.getfield 7, 3) := by decide +kernel
theorem d1_put_15 : decode b1_put 15 = .ok (.arraylength, 1) := by decide +kernel
theorem d1_put_16 : decode b1_put 16 = .ok (.if_icmp .ge 45, 3) := by decide +kernel
theorem d1_put_19 : decode b1_put 19 = .ok (.aload_n 0, 1) := by decide +kernel
theorem d1_put_20 : decode b1_put 20 = .ok (.getfield 21, 3) := by decide +kernel
theorem d1_put_23 : decode b1_put 23 = .ok (.aload_n 0, 1) := by decide +kernel
theorem d1_put_24 : decode b1_put 24 = .ok (.getfield 13, 3) := by decide +kernel
theorem d1_put_27 : decode b1_put 27 = .ok (.arraylength, 1) := by decide +kernel
theorem d1_put_28 : decode b1_put 28 = .ok (.if_icmp .ge 33, 3) := by decide +kernel
theorem d1_put_31 : decode b1_put 31 = .ok (.aload_n 0, 1) := by decide +kernel
theorem d1_put_32 : decode b1_put 32 = .ok (.getfield 7, 3) := by decide +kernel
theorem d1_put_35 : decode b1_put 35 = .ok (.aload_n 0, 1) := by decide +kernel
theorem d1_put_36 : decode b1_put 36 = .ok (.getfield 21, 3) := by decide +kernel
theorem d1_put_39 : decode b1_put 39 = .ok (.lload_n 1, 1) := by decide +kernel
theorem d1_put_40 : decode b1_put 40 = .ok (.lastore, 1) := by decide +kernel
theorem d1_put_41 : decode b1_put 41 = .ok (.aload_n 0, 1) := by decide +kernel
theorem d1_put_42 : decode b1_put 42 = .ok (.getfield 13, 3) := by decide +kernel
theorem d1_put_45 : decode b1_put 45 = .ok (.aload_n 0, 1) := by decide +kernel
theorem d1_put_46 : decode b1_put 46 = .ok (.getfield 21, 3) := by decide +kernel
theorem d1_put_49 : decode b1_put 49 = .ok (.dload_n 3, 1) := by decide +kernel
theorem d1_put_50 : decode b1_put 50 = .ok (.dastore, 1) := by decide +kernel
theorem d1_put_51 : decode b1_put 51 = .ok (.aload_n 0, 1) := by decide +kernel
theorem d1_put_52 : decode b1_put 52 = .ok (.dup, 1) := by decide +kernel
theorem d1_put_53 : decode b1_put 53 = .ok (.getfield 21, 3) := by decide +kernel
theorem d1_put_56 : decode b1_put 56 = .ok (.iconst 1, 1) := by decide +kernel
theorem d1_put_57 : decode b1_put 57 = .ok (.iadd, 1) := by decide +kernel
theorem d1_put_58 : decode b1_put 58 = .ok (.putfield 21, 3) := by decide +kernel
theorem d1_put_61 : decode b1_put 61 = .ok (.return_, 1) := by decide +kernel
theorem d1_putNumber_0 : decode b1_putNumber 0 = .ok (.aload_n 0, 1) := by decide +kernel
theorem d1_putNumber_1 : decode b1_putNumber 1 = .ok (.lload_n 1, 1) := by decide +kernel
theorem d1_putNumber_2 : decode b1_putNumber 2 = .ok (.dconst 0, 1) := by decide +kernel
theorem d1_putNumber_3 : decode b1_putNumber 3 = .ok (.invokevirtual 33, 3) := by decide +kernel
theorem d1_putNumber_6 : decode b1_putNumber 6 = .ok (.return_, 1) := by decide +kernel
theorem d1_putReal_0 : decode b1_putReal 0 = .ok (.aload_n 0, 1) := by decide +kernel
theorem d1_putReal_1 : decode b1_putReal 1 = .ok (.lconst 0, 1) := by decide +kernel
theorem d1_putReal_2 : decode b1_putReal 2 = .ok (.dload_n 1, 1) := by decide +kernel
theorem d1_putReal_3 : decode b1_putReal 3 = .ok (.invokevirtual 33, 3) := by decide +kernel
theorem d1_putReal_6 : decode b1_putReal 6 = .ok (.return_, 1) := by decide +kernel
theorem d1_putTruth_0 : decode b1_putTruth 0 = .ok (.aload_n 0, 1) := by decide +kernel
theorem d1_putTruth_1 : decode b1_putTruth 1 = .ok (.iload_n 1, 1) := by decide +kernel
theorem d1_putTruth_2 : decode b1_putTruth 2 = .ok (.ifCond .eq 7, 3) := by decide +kernel
theorem d1_putTruth_5 : decode b1_putTruth 5 = .ok (.lconst 1, 1) := by decide +kernel
theorem d1_putTruth_6 : decode b1_putTruth 6 = .ok (.goto 4, 3) := by decide +kernel
theorem d1_putTruth_9 : decode b1_putTruth 9 = .ok (.lconst 0, 1) := by decide +kernel
theorem d1_putTruth_10 : decode b1_putTruth 10 = .ok (.dconst 0, 1) := by decide +kernel
theorem d1_putTruth_11 : decode b1_putTruth 11 = .ok (.invokevirtual 33, 3) := by decide +kernel
theorem d1_putTruth_14 : decode b1_putTruth 14 = .ok (.return_, 1) := by decide +kernel
theorem d1_putFrom_0 : decode b1_putFrom 0 = .ok (.aload_n 0, 1) := by decide +kernel
theorem d1_putFrom_1 : decode b1_putFrom 1 = .ok (.aload_n 1, 1) := by decide +kernel
theorem d1_putFrom_2 : decode b1_putFrom 2 = .ok (.iload_n 2, 1) := by decide +kernel
theorem d1_putFrom_3 : decode b1_putFrom 3 = .ok (.invokevirtual 25, 3) := by decide +kernel
theorem d1_putFrom_6 : decode b1_putFrom 6 = .ok (.aload_n 1, 1) := by decide +kernel
theorem d1_putFrom_7 : decode b1_putFrom 7 = .ok (.iload_n 2, 1) := by decide +kernel
theorem d1_putFrom_8 : decode b1_putFrom 8 = .ok (.invokevirtual 29, 3) := by decide +kernel
theorem d1_putFrom_11 : decode b1_putFrom 11 = .ok (.invokevirtual 33, 3) := by decide +kernel
theorem d1_putFrom_14 : decode b1_putFrom 14 = .ok (.return_, 1) := by decide +kernel
theorem d1_takeNumber_0 : decode b1_takeNumber 0 = .ok (.aload_n 0, 1) := by decide +kernel
theorem d1_takeNumber_1 : decode b1_takeNumber 1 = .ok (.invokevirtual 37, 3) := by decide +kernel
theorem d1_takeNumber_4 : decode b1_takeNumber 4 = .ok (.aload_n 0, 1) := by decide +kernel
theorem d1_takeNumber_5 : decode b1_takeNumber 5 = .ok (.aload_n 0, 1) := by decide +kernel
theorem d1_takeNumber_6 : decode b1_takeNumber 6 = .ok (.getfield 21, 3) := by decide +kernel
theorem d1_takeNumber_9 : decode b1_takeNumber 9 = .ok (.invokevirtual 25, 3) := by decide +kernel
theorem d1_takeNumber_12 : decode b1_takeNumber 12 = .ok (.lreturn, 1) := by decide +kernel
theorem d1_takeInt_0 : decode b1_takeInt 0 = .ok (.aload_n 0, 1) := by decide +kernel
theorem d1_takeInt_1 : decode b1_takeInt 1 = .ok (.invokevirtual 40, 3) := by decide +kernel
theorem d1_takeInt_4 : decode b1_takeInt 4 = .ok (.l2i, 1) := by decide +kernel
theorem d1_takeInt_5 : decode b1_takeInt 5 = .ok (.ireturn, 1) := by decide +kernel
theorem d1_takeReal_0 : decode b1_takeReal 0 = .ok (.aload_n 0, 1) := by decide +kernel
theorem d1_takeReal_1 : decode b1_takeReal 1 = .ok (.invokevirtual 37, 3) := by decide +kernel
theorem d1_takeReal_4 : decode b1_takeReal 4 = .ok (.aload_n 0, 1) := by decide +kernel
theorem d1_takeReal_5 : decode b1_takeReal 5 = .ok (.aload_n 0, 1) := by decide +kernel
theorem d1_takeReal_6 : decode b1_takeReal 6 = .ok (.getfield 21, 3) := by decide +kernel
theorem d1_takeReal_9 : decode b1_takeReal 9 = .ok (.invokevirtual 29, 3) := by decide +kernel
theorem d1_takeReal_12 : decode b1_takeReal 12 = .ok (.dreturn, 1) := by decide +kernel
theorem d1_drop_0 : decode b1_drop 0 = .ok (.aload_n 0, 1) := by decide +kernel
theorem d1_drop_1 : decode b1_drop 1 = .ok (.getfield 21, 3) := by decide +kernel
theorem d1_drop_4 : decode b1_drop 4 = .ok (.ifCond .le 13, 3) := by decide +kernel
theorem d1_drop_7 : decode b1_drop 7 = .ok (.aload_n 0, 1) := by decide +kernel
theorem d1_drop_8 : decode b1_drop 8 = .ok (.dup, 1) := by decide +kernel
theorem d1_drop_9 : decode b1_drop 9 = .ok (.getfield 21, 3) := by decide +kernel
theorem d1_drop_12 : decode b1_drop 12 = .ok (.iconst 1, 1) := by decide +kernel
theorem d1_drop_13 : decode b1_drop 13 = .ok (.isub, 1) := by decide +kernel
theorem d1_drop_14 : decode b1_drop 14 = .ok (.putfield 21, 3) := by decide +kernel
theorem d1_drop_17 : decode b1_drop 17 = .ok (.return_, 1) := by decide +kernel
theorem d1_cutTo_0 : decode b1_cutTo 0 = .ok (.iload_n 1, 1) := by decide +kernel
theorem d1_cutTo_1 : decode b1_cutTo 1 = .ok (.ifCond .lt 16, 3) := by decide +kernel
theorem d1_cutTo_4 : decode b1_cutTo 4 = .ok (.iload_n 1, 1) := by decide +kernel
theorem d1_cutTo_5 : decode b1_cutTo 5 = .ok (.aload_n 0, 1) := by decide +kernel
theorem d1_cutTo_6 : decode b1_cutTo 6 = .ok (.getfield 21, 3) := by decide +kernel
theorem d1_cutTo_9 : decode b1_cutTo 9 = .ok (.if_icmp .ge 8, 3) := by decide +kernel
theorem d1_cutTo_12 : decode b1_cutTo 12 = .ok (.aload_n 0, 1) := by decide +kernel
theorem d1_cutTo_13 : decode b1_cutTo 13 = .ok (.iload_n 1, 1) := by decide +kernel
theorem d1_cutTo_14 : decode b1_cutTo 14 = .ok (.putfield 21, 3) := by decide +kernel
theorem d1_cutTo_17 : decode b1_cutTo 17 = .ok (.return_, 1) := by decide +kernel
theorem d2_init_0 : decode b2_init 0 = .ok (.aload_n 0, 1) := by decide +kernel
theorem d2_init_1 : decode b2_init 1 = .ok (.invokespecial 3, 3) := by decide +kernel
theorem d2_init_4 : decode b2_init 4 = .ok (.aload_n 0, 1) := by decide +kernel
theorem d2_init_5 : decode b2_init 5 = .ok (.bipush 16, 2) := by decide +kernel
theorem d2_init_7 : decode b2_init 7 = .ok (.newarray .int, 2) := by decide +kernel
theorem d2_init_9 : decode b2_init 9 = .ok (.putfield 9, 3) := by decide +kernel
theorem d2_init_12 : decode b2_init 12 = .ok (.aload_n 0, 1) := by decide +kernel
theorem d2_init_13 : decode b2_init 13 = .ok (.bipush 8, 2) := by decide +kernel
theorem d2_init_15 : decode b2_init 15 = .ok (.anewarray 15, 3) := by decide +kernel
theorem d2_init_18 : decode b2_init 18 = .ok (.putfield 17, 3) := by decide +kernel
theorem d2_init_21 : decode b2_init 21 = .ok (.aload_n 0, 1) := by decide +kernel
theorem d2_init_22 : decode b2_init 22 = .ok (.aload_n 1, 1) := by decide +kernel
theorem d2_init_23 : decode b2_init 23 = .ok (.putfield 21, 3) := by decide +kernel
theorem d2_init_26 : decode b2_init 26 = .ok (.iconst 0, 1) := by decide +kernel
theorem d2_init_27 : decode b2_init 27 = .ok (.istore_n 2, 1) := by decide +kernel
theorem d2_init_28 : decode b2_init 28 = .ok (.iload_n 2, 1) := by decide +kernel
theorem d2_init_29 : decode b2_init 29 = .ok (.bipush 8, 2) := by decide +kernel
theorem d2_init_31 : decode b2_init 31 = .ok (.if_icmp .ge 22, 3) := by decide +kernel
theorem d2_init_34 : decode b2_init 34 = .ok (.aload_n 0, 1) := by decide +kernel
theorem d2_init_35 : decode b2_init 35 = .ok (.getfield 17, 3) := by decide +kernel
theorem d2_init_38 : decode b2_init 38 = .ok (.iload_n 2, 1) := by decide +kernel
theorem d2_init_39 : decode b2_init 39 = .ok (.new 15, 3) := by decide +kernel
theorem d2_init_42 : decode b2_init 42 = .ok (.dup, 1) := by decide +kernel
theorem d2_init_43 : decode b2_init 43 = .ok (.invokespecial 25, 3) := by decide +kernel
theorem d2_init_46 : decode b2_init 46 = .ok (.aastore, 1) := by decide +kernel
theorem d2_init_47 : decode b2_init 47 = .ok (.iinc 2 1, 3) := by decide +kernel
theorem d2_init_50 : decode b2_init 50 = .ok (.goto (-22), 3) := by decide +kernel
theorem d2_init_53 : decode b2_init 53 = .ok (.aload_n 0, 1) := by decide +kernel
theorem d2_init_54 : decode b2_init 54 = .ok (.aload_n 1, 1) := by decide +kernel
theorem d2_init_55 : decode b2_init 55 = .ok (.iconst 0, 1) := by decide +kernel
theorem d2_init_56 : decode b2_init 56 = .ok (.aaload, 1) := by decide +kernel
theorem d2_init_57 : decode b2_init 57 = .ok (.putfield 26, 3) := by decide +kernel
theorem d2_init_60 : decode b2_init 60 = .ok (.aload_n 0, 1) := by decide +kernel
theorem d2_init_61 : decode b2_init 61 = .ok (.aload_n 0, 1) := by decide +kernel
theorem d2_init_62 : decode b2_init 62 = .ok (.getfield 17, 3) := by decide +kernel
theorem d2_init_65 : decode b2_init 65 = .ok (.iconst 0, 1) := by decide +kernel
theorem d2_init_66 : decode b2_init 66 = .ok (.aaload, 1) := by decide +kernel
theorem d2_init_67 : decode b2_init 67 = .ok (.putfield 30, 3) := by decide +kernel
theorem d2_init_70 : decode b2_init 70 = .ok (.return_, 1) := by decide +kernel
theorem d2_faultIn_0 : decode b2_faultIn 0 = .ok (.aload_n 0, 1) := by decide +kernel
theorem d2_faultIn_1 : decode b2_faultIn 1 = .ok (.aload_n 1, 1) := by decide +kernel
theorem d2_faultIn_2 : decode b2_faultIn 2 = .ok (.putfield 26, 3) := by decide +kernel
theorem d2_faultIn_5 : decode b2_faultIn 5 = .ok (.aload_n 0, 1) := by decide +kernel
theorem d2_faultIn_6 : decode b2_faultIn 6 = .ok (.iconst 0, 1) := by decide +kernel
theorem d2_faultIn_7 : decode b2_faultIn 7 = .ok (.putfield 34, 3) := by decide +kernel
theorem d2_faultIn_10 : decode b2_faultIn 10 = .ok (.aload_n 0, 1) := by decide +kernel
theorem d2_faultIn_11 : decode b2_faultIn 11 = .ok (.iconst 0, 1) := by decide +kernel
theorem d2_faultIn_12 : decode b2_faultIn 12 = .ok (.putfield 38, 3) := by decide +kernel
theorem d2_faultIn_15 : decode b2_faultIn 15 = .ok (.aload_n 0, 1) := by decide +kernel
theorem d2_faultIn_16 : decode b2_faultIn 16 = .ok (.iconst 0, 1) := by decide +kernel
theorem d2_faultIn_17 : decode b2_faultIn 17 = .ok (.putfield 41, 3) := by decide +kernel
theorem d2_faultIn_20 : decode b2_faultIn 20 = .ok (.aload_n 0, 1) := by decide +kernel
theorem d2_faultIn_21 : decode b2_faultIn 21 = .ok (.iconst (-1), 1) := by decide +kernel
theorem d2_faultIn_22 : decode b2_faultIn 22 = .ok (.iconst 2, 1) := by decide +kernel
theorem d2_faultIn_23 : decode b2_faultIn 23 = .ok (.aload_n 0, 1) := by decide +kernel
theorem d2_faultIn_24 : decode b2_faultIn 24 = .ok (.getfield 26, 3) := by decide +kernel
theorem d2_faultIn_27 : decode b2_faultIn 27 = .ok (.invokevirtual 47, 3) := by decide +kernel
theorem d2_faultIn_30 : decode b2_faultIn 30 = .ok (.invokevirtual 53, 3) := by decide +kernel
theorem d2_faultIn_33 : decode b2_faultIn 33 = .ok (.iconst 0, 1) := by decide +kernel
theorem d2_faultIn_34 : decode b2_faultIn 34 = .ok (.istore_n 2, 1) := by decide +kernel
theorem d2_faultIn_35 : decode b2_faultIn 35 = .ok (.iconst 0, 1) := by decide +kernel
theorem d2_faultIn_36 : decode b2_faultIn 36 = .ok (.istore_n 3, 1) := by decide +kernel
theorem d2_faultIn_37 : decode b2_faultIn 37 = .ok (.iload_n 3, 1) := by decide +kernel
theorem d2_faultIn_38 : decode b2_faultIn 38 = .ok (.bipush 60, 2) := by decide +kernel
theorem d2_faultIn_40 : decode b2_faultIn 40 = .ok (.if_icmp .ge 85, 3) := by decide +kernel
theorem d2_faultIn_43 : decode b2_faultIn 43 = .ok (.iload_n 2, 1) := by decide +kernel
theorem d2_faultIn_44 : decode b2_faultIn 44 = .ok (.aload_n 0, 1) := by decide +kernel
theorem d2_faultIn_45 : decode b2_faultIn 45 = .ok (.getfield 26, 3) := by decide +kernel
theorem d2_faultIn_48 : decode b2_faultIn 48 = .ok (.invokevirtual 57, 3) := by decide +kernel
theorem d2_faultIn_51 : decode b2_faultIn 51 = .ok (.if_icmp .ge 74, 3) := by decide +kernel
theorem d2_faultIn_54 : decode b2_faultIn 54 = .ok (.aload_n 0, 1) := by decide +kernel
theorem d2_faultIn_55 : decode b2_faultIn 55 = .ok (.getfield 26, 3) := by decide +kernel
theorem d2_faultIn_58 : decode b2_faultIn 58 = .ok (.iload_n 2, 1) := by decide +kernel
theorem d2_faultIn_59 : decode b2_faultIn 59 = .ok (.invokevirtual 60, 3) := by decide +kernel
theorem d2_faultIn_62 : decode b2_faultIn 62 = .ok (.istore 4, 2) := by decide +kernel
theorem d2_faultIn_64 : decode b2_faultIn 64 = .ok (.aload_n 0, 1) := by decide +kernel
theorem d2_faultIn_65 : decode b2_faultIn 65 = .ok (.getfield 38, 3) := by decide +kernel
theorem d2_faultIn_68 : decode b2_faultIn 68 = .ok (.ifCond .eq 8, 3) := by decide +kernel
theorem d2_faultIn_71 : decode b2_faultIn 71 = .ok (.iload 4, 2) := by decide +kernel
theorem d2_faultIn_73 : decode b2_faultIn 73 = .ok (.ifCond .ne 5, 3) := by decide +kernel
theorem d2_faultIn_76 : decode b2_faultIn 76 = .ok (.iload_n 2, 1) := by decide +kernel
theorem d2_faultIn_77 : decode b2_faultIn 77 = .ok (.ireturn, 1) := by decide +kernel
theorem d2_faultIn_78 : decode b2_faultIn 78 = .ok (.iload_n 2, 1) := by decide +kernel
theorem d2_faultIn_79 : decode b2_faultIn 79 = .ok (.iload 4, 2) := by decide +kernel
theorem d2_faultIn_81 : decode b2_faultIn 81 = .ok (.iadd, 1) := by decide +kernel
theorem d2_faultIn_82 : decode b2_faultIn 82 = .ok (.aload_n 0, 1) := by decide +kernel
theorem d2_faultIn_83 : decode b2_faultIn 83 = .ok (.getfield 26, 3) := by decide +kernel
theorem d2_faultIn_86 : decode b2_faultIn 86 = .ok (.invokevirtual 57, 3) := by decide +kernel
theorem d2_faultIn_89 : decode b2_faultIn 89 = .ok (.if_icmp .le 11, 3) := by decide +kernel
theorem d2_faultIn_92 : decode b2_faultIn 92 = .ok (.aload_n 0, 1) := by decide +kernel
theorem d2_faultIn_93 : decode b2_faultIn 93 = .ok (.getfield 26, 3) := by decide +kernel
theorem d2_faultIn_96 : decode b2_faultIn 96 = .ok (.invokevirtual 57, 3) := by decide +kernel
theorem d2_faultIn_99 : decode b2_faultIn 99 = .ok (.ireturn, 1) := by decide +kernel
theorem d2_faultIn_100 : decode b2_faultIn 100 = .ok (.aload_n 0, 1) := by decide +kernel
theorem d2_faultIn_101 : decode b2_faultIn 101 = .ok (.iload_n 2, 1) := by decide +kernel
theorem d2_faultIn_102 : decode b2_faultIn 102 = .ok (.invokevirtual 64, 3) := by decide +kernel
theorem d2_faultIn_105 : decode b2_faultIn 105 = .ok (.aload_n 0, 1) := by decide +kernel
theorem d2_faultIn_106 : decode b2_faultIn 106 = .ok (.getfield 41, 3) := by decide +kernel
theorem d2_faultIn_109 : decode b2_faultIn 109 = .ok (.ifCond .eq 5, 3) := by decide +kernel
theorem d2_faultIn_112 : decode b2_faultIn 112 = .ok (.iload_n 2, 1) := by decide +kernel
theorem d2_faultIn_113 : decode b2_faultIn 113 = .ok (.ireturn, 1) := by decide +kernel
theorem d2_faultIn_114 : decode b2_faultIn 114 = .ok (.iload_n 2, 1) := by decide +kernel
theorem d2_faultIn_115 : decode b2_faultIn 115 = .ok (.iload 4, 2) := by decide +kernel
theorem d2_faultIn_117 : decode b2_faultIn 117 = .ok (.iadd, 1) := by decide +kernel
theorem d2_faultIn_118 : decode b2_faultIn 118 = .ok (.istore_n 2, 1) := by decide +kernel
theorem d2_faultIn_119 : decode b2_faultIn 119 = .ok (.iinc 3 1, 3) := by decide +kernel
theorem d2_faultIn_122 : decode b2_faultIn 122 = .ok (.goto (-85), 3) := by decide +kernel
theorem d2_faultIn_125 : decode b2_faultIn 125 = .ok (.aload_n 0, 1) := by decide +kernel
theorem d2_faultIn_126 : decode b2_faultIn 126 = .ok (.getfield 38, 3) := by decide +kernel
theorem d2_faultIn_129 : decode b2_faultIn 129 = .ok (.ifCond .ne 7, 3) := by decide +kernel
theorem d2_faultIn_132 : decode b2_faultIn 132 = .ok (.iconst (-1), 1) := by decide +kernel
theorem d2_faultIn_133 : decode b2_faultIn 133 = .ok (.goto 10, 3) := by decide +kernel
theorem d2_faultIn_136 : decode b2_faultIn 136 = .ok (.aload_n 0, 1) := by decide +kernel
theorem d2_faultIn_137 : decode b2_faultIn 137 = .ok (.getfield 26, 3) := by decide +kernel
theorem d2_faultIn_140 : decode b2_faultIn 140 = .ok (.invokevirtual 57, 3) := by decide +kernel
theorem d2_faultIn_143 : decode b2_faultIn 143 = .ok (.ireturn, 1) := by decide +kernel
theorem d2_goOver_0 : decode b2_goOver 0 = .ok (.aload_n 0, 1) := by decide +kernel
theorem d2_goOver_1 : decode b2_goOver 1 = .ok (.getfield 26, 3) := by decide +kernel
theorem d2_goOver_4 : decode b2_goOver 4 = .ok (.iload_n 1, 1) := by decide +kernel
theorem d2_goOver_5 : decode b2_goOver 5 = .ok (.invokevirtual 68, 3) := by decide +kernel
theorem d2_goOver_8 : decode b2_goOver 8 = .ok (.istore_n 2, 1) := by decide +kernel
theorem d2_goOver_9 : decode b2_goOver 9 = .ok (.aload_n 0, 1) := by decide +kernel
theorem d2_goOver_10 : decode b2_goOver 10 = .ok (.getfield 26, 3) := by decide +kernel
theorem d2_goOver_13 : decode b2_goOver 13 = .ok (.iload_n 1, 1) := by decide +kernel
theorem d2_goOver_14 : decode b2_goOver 14 = .ok (.iconst 1, 1) := by decide +kernel
theorem d2_goOver_15 : decode b2_goOver 15 = .ok (.iadd, 1) := by decide +kernel
theorem d2_goOver_16 : decode b2_goOver 16 = .ok (.invokevirtual 68, 3) := by decide +kernel
theorem d2_goOver_19 : decode b2_goOver 19 = .ok (.istore_n 3, 1) := by decide +kernel
theorem d2_goOver_20 : decode b2_goOver 20 = .ok (.iload_n 2, 1) := by decide +kernel
theorem d2_goOver_21 : decode b2_goOver 21 = .ok (.bipush 6, 2) := by decide +kernel
theorem d2_goOver_23 : decode b2_goOver 23 = .ok (.if_icmp .gt 13, 3) := by decide +kernel
theorem d2_goOver_26 : decode b2_goOver 26 = .ok (.aload_n 0, 1) := by decide +kernel
theorem d2_goOver_27 : decode b2_goOver 27 = .ok (.iload_n 1, 1) := by decide +kernel
theorem d2_goOver_28 : decode b2_goOver 28 = .ok (.iload_n 2, 1) := by decide +kernel
theorem d2_goOver_29 : decode b2_goOver 29 = .ok (.iload_n 3, 1) := by decide +kernel
theorem d2_goOver_30 : decode b2_goOver 30 = .ok (.invokevirtual 71, 3) := by decide +kernel
theorem d2_goOver_33 : decode b2_goOver 33 = .ok (.goto 42, 3) := by decide +kernel
theorem d2_goOver_36 : decode b2_goOver 36 = .ok (.iload_n 2, 1) := by decide +kernel
theorem d2_goOver_37 : decode b2_goOver 37 = .ok (.bipush 10, 2) := by decide +kernel
theorem d2_goOver_39 : decode b2_goOver 39 = .ok (.if_icmp .gt 13, 3) := by decide +kernel
theorem d2_goOver_42 : decode b2_goOver 42 = .ok (.aload_n 0, 1) := by decide +kernel
theorem d2_goOver_43 : decode b2_goOver 43 = .ok (.iload_n 1, 1) := by decide +kernel
theorem d2_goOver_44 : decode b2_goOver 44 = .ok (.iload_n 2, 1) := by decide +kernel
theorem d2_goOver_45 : decode b2_goOver 45 = .ok (.iload_n 3, 1) := by decide +kernel
theorem d2_goOver_46 : decode b2_goOver 46 = .ok (.invokevirtual 74, 3) := by decide +kernel
theorem d2_goOver_49 : decode b2_goOver 49 = .ok (.goto 26, 3) := by decide +kernel
theorem d2_goOver_52 : decode b2_goOver 52 = .ok (.iload_n 2, 1) := by decide +kernel
theorem d2_goOver_53 : decode b2_goOver 53 = .ok (.bipush 19, 2) := by decide +kernel
theorem d2_goOver_55 : decode b2_goOver 55 = .ok (.if_icmp .gt 12, 3) := by decide +kernel
theorem d2_goOver_58 : decode b2_goOver 58 = .ok (.aload_n 0, 1) := by decide +kernel
theorem d2_goOver_59 : decode b2_goOver 59 = .ok (.iload_n 2, 1) := by decide +kernel
theorem d2_goOver_60 : decode b2_goOver 60 = .ok (.iload_n 3, 1) := by decide +kernel
theorem d2_goOver_61 : decode b2_goOver 61 = .ok (.invokevirtual 77, 3) := by decide +kernel
theorem d2_goOver_64 : decode b2_goOver 64 = .ok (.goto 11, 3) := by decide +kernel
theorem d2_goOver_67 : decode b2_goOver 67 = .ok (.aload_n 0, 1) := by decide +kernel
theorem d2_goOver_68 : decode b2_goOver 68 = .ok (.iload_n 2, 1) := by decide +kernel
theorem d2_goOver_69 : decode b2_goOver 69 = .ok (.invokestatic 81, 3) := by decide +kernel
theorem d2_goOver_72 : decode b2_goOver 72 = .ok (.invokevirtual 84, 3) := by decide +kernel
theorem d2_goOver_75 : decode b2_goOver 75 = .ok (.return_, 1) := by decide +kernel
theorem d2_goOverFrames_0 : decode b2_goOverFrames 0 = .ok (.iload_n 2, 1) := by decide +kernel
theorem d2_goOverFrames_1 : decode b2_goOverFrames 1 = .ok (.tableswitch 92 0 6 #[43, 92, 50, 50, 60, 76, 84], 43) := by decide +kernel
theorem d2_goOverFrames_44 : decode b2_goOverFrames 44 = .ok (.aload_n 0, 1) := by decide +kernel
theorem d2_goOverFrames_45 : decode b2_goOverFrames 45 = .ok (.invokevirtual 87, 3) := by decide +kernel
theorem d2_goOverFrames_48 : decode b2_goOverFrames 48 = .ok (.goto 45, 3) := by decide +kernel
theorem d2_goOverFrames_51 : decode b2_goOverFrames 51 = .ok (.aload_n 0, 1) := by decide +kernel
theorem d2_goOverFrames_52 : decode b2_goOverFrames 52 = .ok (.iload_n 1, 1) := by decide +kernel
theorem d2_goOverFrames_53 : decode b2_goOverFrames 53 = .ok (.iload_n 2, 1) := by decide +kernel
theorem d2_goOverFrames_54 : decode b2_goOverFrames 54 = .ok (.iload_n 3, 1) := by decide +kernel
theorem d2_goOverFrames_55 : decode b2_goOverFrames 55 = .ok (.invokevirtual 53, 3) := by decide +kernel
theorem d2_goOverFrames_58 : decode b2_goOverFrames 58 = .ok (.goto 35, 3) := by decide +kernel
theorem d2_goOverFrames_61 : decode b2_goOverFrames 61 = .ok (.aload_n 0, 1) := by decide +kernel
theorem d2_goOverFrames_62 : decode b2_goOverFrames 62 = .ok (.iconst 1, 1) := by decide +kernel
theorem d2_goOverFrames_63 : decode b2_goOverFrames 63 = .ok (.invokevirtual 90, 3) := by decide +kernel
theorem d2_goOverFrames_66 : decode b2_goOverFrames 66 = .ok (.pop, 1) := by decide +kernel
theorem d2_goOverFrames_67 : decode b2_goOverFrames 67 = .ok (.aload_n 0, 1) := by decide +kernel
theorem d2_goOverFrames_68 : decode b2_goOverFrames 68 = .ok (.iload_n 1, 1) := by decide +kernel
theorem d2_goOverFrames_69 : decode b2_goOverFrames 69 = .ok (.iload_n 2, 1) := by decide +kernel
theorem d2_goOverFrames_70 : decode b2_goOverFrames 70 = .ok (.iload_n 3, 1) := by decide +kernel
theorem d2_goOverFrames_71 : decode b2_goOverFrames 71 = .ok (.invokevirtual 53, 3) := by decide +kernel
theorem d2_goOverFrames_74 : decode b2_goOverFrames 74 = .ok (.goto 19, 3) := by decide +kernel
theorem d2_goOverFrames_77 : decode b2_goOverFrames 77 = .ok (.aload_n 0, 1) := by decide +kernel
theorem d2_goOverFrames_78 : decode b2_goOverFrames 78 = .ok (.iload_n 1, 1) := by decide +kernel
theorem d2_goOverFrames_79 : decode b2_goOverFrames 79 = .ok (.invokevirtual 93, 3) := by decide +kernel
theorem d2_goOverFrames_82 : decode b2_goOverFrames 82 = .ok (.goto 11, 3) := by decide +kernel
theorem d2_goOverFrames_85 : decode b2_goOverFrames 85 = .ok (.aload_n 0, 1) := by decide +kernel
theorem d2_goOverFrames_86 : decode b2_goOverFrames 86 = .ok (.iload_n 1, 1) := by decide +kernel
theorem d2_goOverFrames_87 : decode b2_goOverFrames 87 = .ok (.invokevirtual 96, 3) := by decide +kernel
theorem d2_goOverFrames_90 : decode b2_goOverFrames 90 = .ok (.goto 3, 3) := by decide +kernel
theorem d2_goOverFrames_93 : decode b2_goOverFrames 93 = .ok (.return_, 1) := by decide +kernel
theorem d2_beginFrame_0 : decode b2_beginFrame 0 = .ok (.aload_n 0, 1) := by decide +kernel
theorem d2_beginFrame_1 : decode b2_beginFrame 1 = .ok (.getfield 38, 3) := by decide +kernel
theorem d2_beginFrame_4 : decode b2_beginFrame 4 = .ok (.ifCond .lt 17, 3) := by decide +kernel
theorem d2_beginFrame_7 : decode b2_beginFrame 7 = .ok (.aload_n 0, 1) := by decide +kernel
theorem d2_beginFrame_8 : decode b2_beginFrame 8 = .ok (.getfield 38, 3) := by decide +kernel
theorem d2_beginFrame_11 : decode b2_beginFrame 11 = .ok (.bipush 8, 2) := by decide +kernel
theorem d2_beginFrame_13 : decode b2_beginFrame 13 = .ok (.if_icmp .ge 8, 3) := by decide +kernel
theorem d2_beginFrame_16 : decode b2_beginFrame 16 = .ok (.iload_n 3, 1) := by decide +kernel
theorem d2_beginFrame_17 : decode b2_beginFrame 17 = .ok (.iconst 3, 1) := by decide +kernel
theorem d2_beginFrame_18 : decode b2_beginFrame 18 = .ok (.if_icmp .le 9, 3) := by decide +kernel
theorem d2_beginFrame_21 : decode b2_beginFrame 21 = .ok (.aload_n 0, 1) := by decide +kernel
theorem d2_beginFrame_22 : decode b2_beginFrame 22 = .ok (.iconst 1, 1) := by decide +kernel
theorem d2_beginFrame_23 : decode b2_beginFrame 23 = .ok (.putfield 41, 3) := by decide +kernel
theorem d2_beginFrame_26 : decode b2_beginFrame 26 = .ok (.return_, 1) := by decide +kernel
theorem d2_beginFrame_27 : decode b2_beginFrame 27 = .ok (.aload_n 0, 1) := by decide +kernel
theorem d2_beginFrame_28 : decode b2_beginFrame 28 = .ok (.aload_n 0, 1) := by decide +kernel
theorem d2_beginFrame_29 : decode b2_beginFrame 29 = .ok (.getfield 17, 3) := by decide +kernel
theorem d2_beginFrame_32 : decode b2_beginFrame 32 = .ok (.aload_n 0, 1) := by decide +kernel
theorem d2_beginFrame_33 : decode b2_beginFrame 33 = .ok (.getfield 38, 3) := by decide +kernel
theorem d2_beginFrame_36 : decode b2_beginFrame 36 = .ok (.aaload, 1) := by decide +kernel
theorem d2_beginFrame_37 : decode b2_beginFrame 37 = .ok (.putfield 30, 3) := by decide +kernel
theorem d2_beginFrame_40 : decode b2_beginFrame 40 = .ok (.aload_n 0, 1) := by decide +kernel
theorem d2_beginFrame_41 : decode b2_beginFrame 41 = .ok (.getfield 30, 3) := by decide +kernel
theorem d2_beginFrame_44 : decode b2_beginFrame 44 = .ok (.iload_n 1, 1) := by decide +kernel
theorem d2_beginFrame_45 : decode b2_beginFrame 45 = .ok (.iload_n 2, 1) := by decide +kernel
theorem d2_beginFrame_46 : decode b2_beginFrame 46 = .ok (.aload_n 0, 1) := by decide +kernel
theorem d2_beginFrame_47 : decode b2_beginFrame 47 = .ok (.getfield 34, 3) := by decide +kernel
theorem d2_beginFrame_50 : decode b2_beginFrame 50 = .ok (.iload_n 3, 1) := by decide +kernel
theorem d2_beginFrame_51 : decode b2_beginFrame 51 = .ok (.invokevirtual 99, 3) := by decide +kernel
theorem d2_beginFrame_54 : decode b2_beginFrame 54 = .ok (.aload_n 0, 1) := by decide +kernel
theorem d2_beginFrame_55 : decode b2_beginFrame 55 = .ok (.dup, 1) := by decide +kernel
theorem d2_beginFrame_56 : decode b2_beginFrame 56 = .ok (.getfield 38, 3) := by decide +kernel
theorem d2_beginFrame_59 : decode b2_beginFrame 59 = .ok (.iconst 1, 1) := by decide +kernel
theorem d2_beginFrame_60 : decode b2_beginFrame 60 = .ok (.iadd, 1) := by decide +kernel
theorem d2_beginFrame_61 : decode b2_beginFrame 61 = .ok (.putfield 38, 3) := by decide +kernel
theorem d2_beginFrame_64 : decode b2_beginFrame 64 = .ok (.aload_n 0, 1) := by decide +kernel
theorem d2_beginFrame_65 : decode b2_beginFrame 65 = .ok (.getfield 26, 3) := by decide +kernel
theorem d2_beginFrame_68 : decode b2_beginFrame 68 = .ok (.iload_n 1, 1) := by decide +kernel
theorem d2_beginFrame_69 : decode b2_beginFrame 69 = .ok (.iconst 0, 1) := by decide +kernel
theorem d2_beginFrame_70 : decode b2_beginFrame 70 = .ok (.invokevirtual 103, 3) := by decide +kernel
theorem d2_beginFrame_73 : decode b2_beginFrame 73 = .ok (.return_, 1) := by decide +kernel
theorem d2_turnToElse_0 : decode b2_turnToElse 0 = .ok (.aload_n 0, 1) := by decide +kernel
theorem d2_turnToElse_1 : decode b2_turnToElse 1 = .ok (.getfield 30, 3) := by decide +kernel
theorem d2_turnToElse_4 : decode b2_turnToElse 4 = .ok (.invokevirtual 106, 3) := by decide +kernel
theorem d2_turnToElse_7 : decode b2_turnToElse 7 = .ok (.ifCond .ne 9, 3) := by decide +kernel
theorem d2_turnToElse_10 : decode b2_turnToElse 10 = .ok (.aload_n 0, 1) := by decide +kernel
theorem d2_turnToElse_11 : decode b2_turnToElse 11 = .ok (.iconst 1, 1) := by decide +kernel
theorem d2_turnToElse_12 : decode b2_turnToElse 12 = .ok (.putfield 41, 3) := by decide +kernel
theorem d2_turnToElse_15 : decode b2_turnToElse 15 = .ok (.return_, 1) := by decide +kernel
theorem d2_turnToElse_16 : decode b2_turnToElse 16 = .ok (.aload_n 0, 1) := by decide +kernel
theorem d2_turnToElse_17 : decode b2_turnToElse 17 = .ok (.invokevirtual 110, 3) := by decide +kernel
theorem d2_turnToElse_20 : decode b2_turnToElse 20 = .ok (.aload_n 0, 1) := by decide +kernel
theorem d2_turnToElse_21 : decode b2_turnToElse 21 = .ok (.getfield 30, 3) := by decide +kernel
theorem d2_turnToElse_24 : decode b2_turnToElse 24 = .ok (.iconst 0, 1) := by decide +kernel
theorem d2_turnToElse_25 : decode b2_turnToElse 25 = .ok (.putfield 113, 3) := by decide +kernel
theorem d2_turnToElse_28 : decode b2_turnToElse 28 = .ok (.aload_n 0, 1) := by decide +kernel
theorem d2_turnToElse_29 : decode b2_turnToElse 29 = .ok (.getfield 30, 3) := by decide +kernel
theorem d2_turnToElse_32 : decode b2_turnToElse 32 = .ok (.iconst 1, 1) := by decide +kernel
theorem d2_turnToElse_33 : decode b2_turnToElse 33 = .ok (.putfield 116, 3) := by decide +kernel
theorem d2_turnToElse_36 : decode b2_turnToElse 36 = .ok (.aload_n 0, 1) := by decide +kernel
theorem d2_turnToElse_37 : decode b2_turnToElse 37 = .ok (.getfield 26, 3) := by decide +kernel
theorem d2_turnToElse_40 : decode b2_turnToElse 40 = .ok (.aload_n 0, 1) := by decide +kernel
theorem d2_turnToElse_41 : decode b2_turnToElse 41 = .ok (.getfield 30, 3) := by decide +kernel
theorem d2_turnToElse_44 : decode b2_turnToElse 44 = .ok (.getfield 119, 3) := by decide +kernel
theorem d2_turnToElse_47 : decode b2_turnToElse 47 = .ok (.iload_n 1, 1) := by decide +kernel
theorem d2_turnToElse_48 : decode b2_turnToElse 48 = .ok (.iconst 1, 1) := by decide +kernel
theorem d2_turnToElse_49 : decode b2_turnToElse 49 = .ok (.iadd, 1) := by decide +kernel
theorem d2_turnToElse_50 : decode b2_turnToElse 50 = .ok (.invokevirtual 103, 3) := by decide +kernel
theorem d2_turnToElse_53 : decode b2_turnToElse 53 = .ok (.return_, 1) := by decide +kernel
theorem d2_endFrame_0 : decode b2_endFrame 0 = .ok (.aload_n 0, 1) := by decide +kernel
theorem d2_endFrame_1 : decode b2_endFrame 1 = .ok (.getfield 30, 3) := by decide +kernel
theorem d2_endFrame_4 : decode b2_endFrame 4 = .ok (.getfield 122, 3) := by decide +kernel
theorem d2_endFrame_7 : decode b2_endFrame 7 = .ok (.ifCond .eq 19, 3) := by decide +kernel
theorem d2_endFrame_10 : decode b2_endFrame 10 = .ok (.aload_n 0, 1) := by decide +kernel
theorem d2_endFrame_11 : decode b2_endFrame 11 = .ok (.getfield 30, 3) := by decide +kernel
theorem d2_endFrame_14 : decode b2_endFrame 14 = .ok (.invokevirtual 106, 3) := by decide +kernel
theorem d2_endFrame_17 : decode b2_endFrame 17 = .ok (.ifCond .eq 9, 3) := by decide +kernel
theorem d2_endFrame_20 : decode b2_endFrame 20 = .ok (.aload_n 0, 1) := by decide +kernel
theorem d2_endFrame_21 : decode b2_endFrame 21 = .ok (.iconst 1, 1) := by decide +kernel
theorem d2_endFrame_22 : decode b2_endFrame 22 = .ok (.putfield 41, 3) := by decide +kernel
theorem d2_endFrame_25 : decode b2_endFrame 25 = .ok (.return_, 1) := by decide +kernel
theorem d2_endFrame_26 : decode b2_endFrame 26 = .ok (.aload_n 0, 1) := by decide +kernel
theorem d2_endFrame_27 : decode b2_endFrame 27 = .ok (.invokevirtual 110, 3) := by decide +kernel
theorem d2_endFrame_30 : decode b2_endFrame 30 = .ok (.aload_n 0, 1) := by decide +kernel
theorem d2_endFrame_31 : decode b2_endFrame 31 = .ok (.aload_n 0, 1) := by decide +kernel
theorem d2_endFrame_32 : decode b2_endFrame 32 = .ok (.getfield 30, 3) := by decide +kernel
theorem d2_endFrame_35 : decode b2_endFrame 35 = .ok (.getfield 122, 3) := by decide +kernel
theorem d2_endFrame_38 : decode b2_endFrame 38 = .ok (.invokevirtual 124, 3) := by decide +kernel
theorem d2_endFrame_41 : decode b2_endFrame 41 = .ok (.aload_n 0, 1) := by decide +kernel
theorem d2_endFrame_42 : decode b2_endFrame 42 = .ok (.getfield 26, 3) := by decide +kernel
theorem d2_endFrame_45 : decode b2_endFrame 45 = .ok (.aload_n 0, 1) := by decide +kernel
theorem d2_endFrame_46 : decode b2_endFrame 46 = .ok (.getfield 30, 3) := by decide +kernel
theorem d2_endFrame_49 : decode b2_endFrame 49 = .ok (.getfield 119, 3) := by decide +kernel
theorem d2_endFrame_52 : decode b2_endFrame 52 = .ok (.iload_n 1, 1) := by decide +kernel
theorem d2_endFrame_53 : decode b2_endFrame 53 = .ok (.iconst 1, 1) := by decide +kernel
theorem d2_endFrame_54 : decode b2_endFrame 54 = .ok (.iadd, 1) := by decide +kernel
theorem d2_endFrame_55 : decode b2_endFrame 55 = .ok (.invokevirtual 127, 3) := by decide +kernel
theorem d2_endFrame_58 : decode b2_endFrame 58 = .ok (.aload_n 0, 1) := by decide +kernel
theorem d2_endFrame_59 : decode b2_endFrame 59 = .ok (.dup, 1) := by decide +kernel
theorem d2_endFrame_60 : decode b2_endFrame 60 = .ok (.getfield 38, 3) := by decide +kernel
theorem d2_endFrame_63 : decode b2_endFrame 63 = .ok (.iconst 1, 1) := by decide +kernel
theorem d2_endFrame_64 : decode b2_endFrame 64 = .ok (.isub, 1) := by decide +kernel
theorem d2_endFrame_65 : decode b2_endFrame 65 = .ok (.putfield 38, 3) := by decide +kernel
theorem d2_endFrame_68 : decode b2_endFrame 68 = .ok (.aload_n 0, 1) := by decide +kernel
theorem d2_endFrame_69 : decode b2_endFrame 69 = .ok (.getfield 38, 3) := by decide +kernel
theorem d2_endFrame_72 : decode b2_endFrame 72 = .ok (.ifCond .le 27, 3) := by decide +kernel
theorem d2_endFrame_75 : decode b2_endFrame 75 = .ok (.aload_n 0, 1) := by decide +kernel
theorem d2_endFrame_76 : decode b2_endFrame 76 = .ok (.getfield 38, 3) := by decide +kernel
theorem d2_endFrame_79 : decode b2_endFrame 79 = .ok (.bipush 8, 2) := by decide +kernel
theorem d2_endFrame_81 : decode b2_endFrame 81 = .ok (.if_icmp .gt 18, 3) := by decide +kernel
theorem d2_endFrame_84 : decode b2_endFrame 84 = .ok (.aload_n 0, 1) := by decide +kernel
theorem d2_endFrame_85 : decode b2_endFrame 85 = .ok (.aload_n 0, 1) := by decide +kernel
theorem d2_endFrame_86 : decode b2_endFrame 86 = .ok (.getfield 17, 3) := by decide +kernel
theorem d2_endFrame_89 : decode b2_endFrame 89 = .ok (.aload_n 0, 1) := by decide +kernel
theorem d2_endFrame_90 : decode b2_endFrame 90 = .ok (.getfield 38, 3) := by decide +kernel
theorem d2_endFrame_93 : decode b2_endFrame 93 = .ok (.iconst 1, 1) := by decide +kernel
theorem d2_endFrame_94 : decode b2_endFrame 94 = .ok (.isub, 1) := by decide +kernel
theorem d2_endFrame_95 : decode b2_endFrame 95 = .ok (.aaload, 1) := by decide +kernel
theorem d2_endFrame_96 : decode b2_endFrame 96 = .ok (.putfield 30, 3) := by decide +kernel
theorem d2_endFrame_99 : decode b2_endFrame 99 = .ok (.return_, 1) := by decide +kernel
theorem d2_takeAllOfFrame_0 : decode b2_takeAllOfFrame 0 = .ok (.aload_n 0, 1) := by decide +kernel
theorem d2_takeAllOfFrame_1 : decode b2_takeAllOfFrame 1 = .ok (.aload_n 0, 1) := by decide +kernel
theorem d2_takeAllOfFrame_2 : decode b2_takeAllOfFrame 2 = .ok (.getfield 30, 3) := by decide +kernel
theorem d2_takeAllOfFrame_5 : decode b2_takeAllOfFrame 5 = .ok (.getfield 122, 3) := by decide +kernel
theorem d2_takeAllOfFrame_8 : decode b2_takeAllOfFrame 8 = .ok (.invokevirtual 90, 3) := by decide +kernel
theorem d2_takeAllOfFrame_11 : decode b2_takeAllOfFrame 11 = .ok (.pop, 1) := by decide +kernel
theorem d2_takeAllOfFrame_12 : decode b2_takeAllOfFrame 12 = .ok (.aload_n 0, 1) := by decide +kernel
theorem d2_takeAllOfFrame_13 : decode b2_takeAllOfFrame 13 = .ok (.getfield 34, 3) := by decide +kernel
theorem d2_takeAllOfFrame_16 : decode b2_takeAllOfFrame 16 = .ok (.aload_n 0, 1) := by decide +kernel
theorem d2_takeAllOfFrame_17 : decode b2_takeAllOfFrame 17 = .ok (.getfield 30, 3) := by decide +kernel
theorem d2_takeAllOfFrame_20 : decode b2_takeAllOfFrame 20 = .ok (.getfield 130, 3) := by decide +kernel
theorem d2_takeAllOfFrame_23 : decode b2_takeAllOfFrame 23 = .ok (.if_icmp .eq 8, 3) := by decide +kernel
theorem d2_takeAllOfFrame_26 : decode b2_takeAllOfFrame 26 = .ok (.aload_n 0, 1) := by decide +kernel
theorem d2_takeAllOfFrame_27 : decode b2_takeAllOfFrame 27 = .ok (.iconst 1, 1) := by decide +kernel
theorem d2_takeAllOfFrame_28 : decode b2_takeAllOfFrame 28 = .ok (.putfield 41, 3) := by decide +kernel
theorem d2_takeAllOfFrame_31 : decode b2_takeAllOfFrame 31 = .ok (.return_, 1) := by decide +kernel
theorem d2_goOverJumps_0 : decode b2_goOverJumps 0 = .ok (.iload_n 2, 1) := by decide +kernel
theorem d2_goOverJumps_1 : decode b2_goOverJumps 1 = .ok (.tableswitch 100 7 9 #[27, 44, 72], 27) := by decide +kernel
theorem d2_goOverJumps_28 : decode b2_goOverJumps 28 = .ok (.aload_n 0, 1) := by decide +kernel
theorem d2_goOverJumps_29 : decode b2_goOverJumps 29 = .ok (.aload_n 0, 1) := by decide +kernel
theorem d2_goOverJumps_30 : decode b2_goOverJumps 30 = .ok (.iload_n 3, 1) := by decide +kernel
theorem d2_goOverJumps_31 : decode b2_goOverJumps 31 = .ok (.invokevirtual 133, 3) := by decide +kernel
theorem d2_goOverJumps_34 : decode b2_goOverJumps 34 = .ok (.invokevirtual 90, 3) := by decide +kernel
theorem d2_goOverJumps_37 : decode b2_goOverJumps 37 = .ok (.pop, 1) := by decide +kernel
theorem d2_goOverJumps_38 : decode b2_goOverJumps 38 = .ok (.aload_n 0, 1) := by decide +kernel
theorem d2_goOverJumps_39 : decode b2_goOverJumps 39 = .ok (.invokevirtual 87, 3) := by decide +kernel
theorem d2_goOverJumps_42 : decode b2_goOverJumps 42 = .ok (.goto 75, 3) := by decide +kernel
theorem d2_goOverJumps_45 : decode b2_goOverJumps 45 = .ok (.aload_n 0, 1) := by decide +kernel
theorem d2_goOverJumps_46 : decode b2_goOverJumps 46 = .ok (.iconst 1, 1) := by decide +kernel
theorem d2_goOverJumps_47 : decode b2_goOverJumps 47 = .ok (.invokevirtual 90, 3) := by decide +kernel
theorem d2_goOverJumps_50 : decode b2_goOverJumps 50 = .ok (.pop, 1) := by decide +kernel
theorem d2_goOverJumps_51 : decode b2_goOverJumps 51 = .ok (.aload_n 0, 1) := by decide +kernel
theorem d2_goOverJumps_52 : decode b2_goOverJumps 52 = .ok (.aload_n 0, 1) := by decide +kernel
theorem d2_goOverJumps_53 : decode b2_goOverJumps 53 = .ok (.iload_n 3, 1) := by decide +kernel
theorem d2_goOverJumps_54 : decode b2_goOverJumps 54 = .ok (.invokevirtual 133, 3) := by decide +kernel
theorem d2_goOverJumps_57 : decode b2_goOverJumps 57 = .ok (.invokevirtual 90, 3) := by decide +kernel
theorem d2_goOverJumps_60 : decode b2_goOverJumps 60 = .ok (.pop, 1) := by decide +kernel
theorem d2_goOverJumps_61 : decode b2_goOverJumps 61 = .ok (.aload_n 0, 1) := by decide +kernel
theorem d2_goOverJumps_62 : decode b2_goOverJumps 62 = .ok (.aload_n 0, 1) := by decide +kernel
theorem d2_goOverJumps_63 : decode b2_goOverJumps 63 = .ok (.iload_n 3, 1) := by decide +kernel
theorem d2_goOverJumps_64 : decode b2_goOverJumps 64 = .ok (.invokevirtual 133, 3) := by decide +kernel
theorem d2_goOverJumps_67 : decode b2_goOverJumps 67 = .ok (.invokevirtual 124, 3) := by decide +kernel
theorem d2_goOverJumps_70 : decode b2_goOverJumps 70 = .ok (.goto 47, 3) := by decide +kernel
theorem d2_goOverJumps_73 : decode b2_goOverJumps 73 = .ok (.aload_n 0, 1) := by decide +kernel
theorem d2_goOverJumps_74 : decode b2_goOverJumps 74 = .ok (.iconst 1, 1) := by decide +kernel
theorem d2_goOverJumps_75 : decode b2_goOverJumps 75 = .ok (.invokevirtual 90, 3) := by decide +kernel
theorem d2_goOverJumps_78 : decode b2_goOverJumps 78 = .ok (.pop, 1) := by decide +kernel
theorem d2_goOverJumps_79 : decode b2_goOverJumps 79 = .ok (.aload_n 0, 1) := by decide +kernel
theorem d2_goOverJumps_80 : decode b2_goOverJumps 80 = .ok (.aload_n 0, 1) := by decide +kernel
theorem d2_goOverJumps_81 : decode b2_goOverJumps 81 = .ok (.iload_n 1, 1) := by decide +kernel
theorem d2_goOverJumps_82 : decode b2_goOverJumps 82 = .ok (.iconst 2, 1) := by decide +kernel
theorem d2_goOverJumps_83 : decode b2_goOverJumps 83 = .ok (.iadd, 1) := by decide +kernel
theorem d2_goOverJumps_84 : decode b2_goOverJumps 84 = .ok (.iload_n 3, 1) := by decide +kernel
theorem d2_goOverJumps_85 : decode b2_goOverJumps 85 = .ok (.iconst 1, 1) := by decide +kernel
theorem d2_goOverJumps_86 : decode b2_goOverJumps 86 = .ok (.iadd, 1) := by decide +kernel
theorem d2_goOverJumps_87 : decode b2_goOverJumps 87 = .ok (.invokevirtual 136, 3) := by decide +kernel
theorem d2_goOverJumps_90 : decode b2_goOverJumps 90 = .ok (.invokevirtual 90, 3) := by decide +kernel
theorem d2_goOverJumps_93 : decode b2_goOverJumps 93 = .ok (.pop, 1) := by decide +kernel
theorem d2_goOverJumps_94 : decode b2_goOverJumps 94 = .ok (.aload_n 0, 1) := by decide +kernel
theorem d2_goOverJumps_95 : decode b2_goOverJumps 95 = .ok (.invokevirtual 87, 3) := by decide +kernel
theorem d2_goOverJumps_98 : decode b2_goOverJumps 98 = .ok (.goto 19, 3) := by decide +kernel
theorem d2_goOverJumps_101 : decode b2_goOverJumps 101 = .ok (.aload_n 0, 1) := by decide +kernel
theorem d2_goOverJumps_102 : decode b2_goOverJumps 102 = .ok (.aload_n 0, 1) := by decide +kernel
theorem d2_goOverJumps_103 : decode b2_goOverJumps 103 = .ok (.getfield 26, 3) := by decide +kernel
theorem d2_goOverJumps_106 : decode b2_goOverJumps 106 = .ok (.invokevirtual 47, 3) := by decide +kernel
theorem d2_goOverJumps_109 : decode b2_goOverJumps 109 = .ok (.invokevirtual 90, 3) := by decide +kernel
theorem d2_goOverJumps_112 : decode b2_goOverJumps 112 = .ok (.pop, 1) := by decide +kernel
theorem d2_goOverJumps_113 : decode b2_goOverJumps 113 = .ok (.aload_n 0, 1) := by decide +kernel
theorem d2_goOverJumps_114 : decode b2_goOverJumps 114 = .ok (.invokevirtual 87, 3) := by decide +kernel
theorem d2_goOverJumps_117 : decode b2_goOverJumps 117 = .ok (.return_, 1) := by decide +kernel
theorem d2_kindOfJumps_0 : decode b2_kindOfJumps 0 = .ok (.aload_n 0, 1) := by decide +kernel
theorem d2_kindOfJumps_1 : decode b2_kindOfJumps 1 = .ok (.aload_n 0, 1) := by decide +kernel
theorem d2_kindOfJumps_2 : decode b2_kindOfJumps 2 = .ok (.getfield 26, 3) := by decide +kernel
theorem d2_kindOfJumps_5 : decode b2_kindOfJumps 5 = .ok (.iload_n 1, 1) := by decide +kernel
theorem d2_kindOfJumps_6 : decode b2_kindOfJumps 6 = .ok (.invokevirtual 68, 3) := by decide +kernel
theorem d2_kindOfJumps_9 : decode b2_kindOfJumps 9 = .ok (.invokevirtual 133, 3) := by decide +kernel
theorem d2_kindOfJumps_12 : decode b2_kindOfJumps 12 = .ok (.istore_n 3, 1) := by decide +kernel
theorem d2_kindOfJumps_13 : decode b2_kindOfJumps 13 = .ok (.iconst 1, 1) := by decide +kernel
theorem d2_kindOfJumps_14 : decode b2_kindOfJumps 14 = .ok (.istore 4, 2) := by decide +kernel
theorem d2_kindOfJumps_16 : decode b2_kindOfJumps 16 = .ok (.iload 4, 2) := by decide +kernel
theorem d2_kindOfJumps_18 : decode b2_kindOfJumps 18 = .ok (.iload_n 2, 1) := by decide +kernel
theorem d2_kindOfJumps_19 : decode b2_kindOfJumps 19 = .ok (.if_icmp .ge 33, 3) := by decide +kernel
theorem d2_kindOfJumps_22 : decode b2_kindOfJumps 22 = .ok (.aload_n 0, 1) := by decide +kernel
theorem d2_kindOfJumps_23 : decode b2_kindOfJumps 23 = .ok (.aload_n 0, 1) := by decide +kernel
theorem d2_kindOfJumps_24 : decode b2_kindOfJumps 24 = .ok (.getfield 26, 3) := by decide +kernel
theorem d2_kindOfJumps_27 : decode b2_kindOfJumps 27 = .ok (.iload_n 1, 1) := by decide +kernel
theorem d2_kindOfJumps_28 : decode b2_kindOfJumps 28 = .ok (.iload 4, 2) := by decide +kernel
theorem d2_kindOfJumps_30 : decode b2_kindOfJumps 30 = .ok (.iadd, 1) := by decide +kernel
theorem d2_kindOfJumps_31 : decode b2_kindOfJumps 31 = .ok (.invokevirtual 68, 3) := by decide +kernel
theorem d2_kindOfJumps_34 : decode b2_kindOfJumps 34 = .ok (.invokevirtual 133, 3) := by decide +kernel
theorem d2_kindOfJumps_37 : decode b2_kindOfJumps 37 = .ok (.iload_n 3, 1) := by decide +kernel
theorem d2_kindOfJumps_38 : decode b2_kindOfJumps 38 = .ok (.if_icmp .eq 8, 3) := by decide +kernel
theorem d2_kindOfJumps_41 : decode b2_kindOfJumps 41 = .ok (.aload_n 0, 1) := by decide +kernel
theorem d2_kindOfJumps_42 : decode b2_kindOfJumps 42 = .ok (.iconst 1, 1) := by decide +kernel
theorem d2_kindOfJumps_43 : decode b2_kindOfJumps 43 = .ok (.putfield 41, 3) := by decide +kernel
theorem d2_kindOfJumps_46 : decode b2_kindOfJumps 46 = .ok (.iinc 4 1, 3) := by decide +kernel
theorem d2_kindOfJumps_49 : decode b2_kindOfJumps 49 = .ok (.goto (-33), 3) := by decide +kernel
theorem d2_kindOfJumps_52 : decode b2_kindOfJumps 52 = .ok (.iload_n 3, 1) := by decide +kernel
theorem d2_kindOfJumps_53 : decode b2_kindOfJumps 53 = .ok (.ireturn, 1) := by decide +kernel
theorem d2_kindOfJump_0 : decode b2_kindOfJump 0 = .ok (.aload_n 0, 1) := by decide +kernel
theorem d2_kindOfJump_1 : decode b2_kindOfJump 1 = .ok (.getfield 38, 3) := by decide +kernel
theorem d2_kindOfJump_4 : decode b2_kindOfJump 4 = .ok (.iconst 1, 1) := by decide +kernel
theorem d2_kindOfJump_5 : decode b2_kindOfJump 5 = .ok (.isub, 1) := by decide +kernel
theorem d2_kindOfJump_6 : decode b2_kindOfJump 6 = .ok (.iload_n 1, 1) := by decide +kernel
theorem d2_kindOfJump_7 : decode b2_kindOfJump 7 = .ok (.isub, 1) := by decide +kernel
theorem d2_kindOfJump_8 : decode b2_kindOfJump 8 = .ok (.istore_n 2, 1) := by decide +kernel
theorem d2_kindOfJump_9 : decode b2_kindOfJump 9 = .ok (.iload_n 2, 1) := by decide +kernel
theorem d2_kindOfJump_10 : decode b2_kindOfJump 10 = .ok (.ifCond .lt 9, 3) := by decide +kernel
theorem d2_kindOfJump_13 : decode b2_kindOfJump 13 = .ok (.iload_n 2, 1) := by decide +kernel
theorem d2_kindOfJump_14 : decode b2_kindOfJump 14 = .ok (.bipush 8, 2) := by decide +kernel
theorem d2_kindOfJump_16 : decode b2_kindOfJump 16 = .ok (.if_icmp .lt 10, 3) := by decide +kernel
theorem d2_kindOfJump_19 : decode b2_kindOfJump 19 = .ok (.aload_n 0, 1) := by decide +kernel
theorem d2_kindOfJump_20 : decode b2_kindOfJump 20 = .ok (.iconst 1, 1) := by decide +kernel
theorem d2_kindOfJump_21 : decode b2_kindOfJump 21 = .ok (.putfield 41, 3) := by decide +kernel
theorem d2_kindOfJump_24 : decode b2_kindOfJump 24 = .ok (.iconst 0, 1) := by decide +kernel
theorem d2_kindOfJump_25 : decode b2_kindOfJump 25 = .ok (.ireturn, 1) := by decide +kernel
theorem d2_kindOfJump_26 : decode b2_kindOfJump 26 = .ok (.aload_n 0, 1) := by decide +kernel
theorem d2_kindOfJump_27 : decode b2_kindOfJump 27 = .ok (.getfield 17, 3) := by decide +kernel
theorem d2_kindOfJump_30 : decode b2_kindOfJump 30 = .ok (.iload_n 2, 1) := by decide +kernel
theorem d2_kindOfJump_31 : decode b2_kindOfJump 31 = .ok (.aaload, 1) := by decide +kernel
theorem d2_kindOfJump_32 : decode b2_kindOfJump 32 = .ok (.invokevirtual 140, 3) := by decide +kernel
theorem d2_kindOfJump_35 : decode b2_kindOfJump 35 = .ok (.ireturn, 1) := by decide +kernel
theorem d2_goOverValues_0 : decode b2_goOverValues 0 = .ok (.iload_n 1, 1) := by decide +kernel
theorem d2_goOverValues_1 : decode b2_goOverValues 1 = .ok (.tableswitch 100 11 19 #[51, 60, 75, 84, 100, 100, 100, 91, 91], 51) := by decide +kernel
theorem d2_goOverValues_52 : decode b2_goOverValues 52 = .ok (.aload_n 0, 1) := by decide +kernel
theorem d2_goOverValues_53 : decode b2_goOverValues 53 = .ok (.iload_n 2, 1) := by decide +kernel
theorem d2_goOverValues_54 : decode b2_goOverValues 54 = .ok (.iconst 1, 1) := by decide +kernel
theorem d2_goOverValues_55 : decode b2_goOverValues 55 = .ok (.invokevirtual 142, 3) := by decide +kernel
theorem d2_goOverValues_58 : decode b2_goOverValues 58 = .ok (.goto 56, 3) := by decide +kernel
theorem d2_goOverValues_61 : decode b2_goOverValues 61 = .ok (.aload_n 0, 1) := by decide +kernel
theorem d2_goOverValues_62 : decode b2_goOverValues 62 = .ok (.iconst 1, 1) := by decide +kernel
theorem d2_goOverValues_63 : decode b2_goOverValues 63 = .ok (.invokevirtual 90, 3) := by decide +kernel
theorem d2_goOverValues_66 : decode b2_goOverValues 66 = .ok (.pop, 1) := by decide +kernel
theorem d2_goOverValues_67 : decode b2_goOverValues 67 = .ok (.aload_n 0, 1) := by decide +kernel
theorem d2_goOverValues_68 : decode b2_goOverValues 68 = .ok (.iload_n 2, 1) := by decide +kernel
theorem d2_goOverValues_69 : decode b2_goOverValues 69 = .ok (.iconst 0, 1) := by decide +kernel
theorem d2_goOverValues_70 : decode b2_goOverValues 70 = .ok (.invokevirtual 142, 3) := by decide +kernel
theorem d2_goOverValues_73 : decode b2_goOverValues 73 = .ok (.goto 41, 3) := by decide +kernel
theorem d2_goOverValues_76 : decode b2_goOverValues 76 = .ok (.aload_n 0, 1) := by decide +kernel
theorem d2_goOverValues_77 : decode b2_goOverValues 77 = .ok (.iconst 4, 1) := by decide +kernel
theorem d2_goOverValues_78 : decode b2_goOverValues 78 = .ok (.invokevirtual 90, 3) := by decide +kernel
theorem d2_goOverValues_81 : decode b2_goOverValues 81 = .ok (.pop, 1) := by decide +kernel
theorem d2_goOverValues_82 : decode b2_goOverValues 82 = .ok (.goto 32, 3) := by decide +kernel
theorem d2_goOverValues_85 : decode b2_goOverValues 85 = .ok (.aload_n 0, 1) := by decide +kernel
theorem d2_goOverValues_86 : decode b2_goOverValues 86 = .ok (.invokevirtual 146, 3) := by decide +kernel
theorem d2_goOverValues_89 : decode b2_goOverValues 89 = .ok (.goto 25, 3) := by decide +kernel
theorem d2_goOverValues_92 : decode b2_goOverValues 92 = .ok (.aload_n 0, 1) := by decide +kernel
theorem d2_goOverValues_93 : decode b2_goOverValues 93 = .ok (.iload_n 1, 1) := by decide +kernel
theorem d2_goOverValues_94 : decode b2_goOverValues 94 = .ok (.iload_n 2, 1) := by decide +kernel
theorem d2_goOverValues_95 : decode b2_goOverValues 95 = .ok (.invokevirtual 149, 3) := by decide +kernel
theorem d2_goOverValues_98 : decode b2_goOverValues 98 = .ok (.goto 16, 3) := by decide +kernel
theorem d2_goOverValues_101 : decode b2_goOverValues 101 = .ok (.aload_n 0, 1) := by decide +kernel
theorem d2_goOverValues_102 : decode b2_goOverValues 102 = .ok (.iload_n 1, 1) := by decide +kernel
theorem d2_goOverValues_103 : decode b2_goOverValues 103 = .ok (.aload_n 0, 1) := by decide +kernel
theorem d2_goOverValues_104 : decode b2_goOverValues 104 = .ok (.getfield 26, 3) := by decide +kernel
theorem d2_goOverValues_107 : decode b2_goOverValues 107 = .ok (.iload_n 2, 1) := by decide +kernel
theorem d2_goOverValues_108 : decode b2_goOverValues 108 = .ok (.invokevirtual 152, 3) := by decide +kernel
theorem d2_goOverValues_111 : decode b2_goOverValues 111 = .ok (.invokevirtual 155, 3) := by decide +kernel
theorem d2_goOverValues_114 : decode b2_goOverValues 114 = .ok (.return_, 1) := by decide +kernel
end
section
theorem d2_goOverCall_0 : decode b2_goOverCall 0 = .ok (.iload_n 1, 1) := by decide +kernel
theorem d2_goOverCall_1 : decode b2_goOverCall 1 = .ok (.invokestatic 158, 3) := by decide +kernel
theorem d2_goOverCall_4 : decode b2_goOverCall 4 = .ok (.ifCond .eq 19, 3) := by decide +kernel
theorem d2_goOverCall_7 : decode b2_goOverCall 7 = .ok (.iload_n 2, 1) := by decide +kernel
theorem d2_goOverCall_8 : decode b2_goOverCall 8 = .ok (.ifCond .eq 21, 3) := by decide +kernel
theorem d2_goOverCall_11 : decode b2_goOverCall 11 = .ok (.aload_n 0, 1) := by decide +kernel
theorem d2_goOverCall_12 : decode b2_goOverCall 12 = .ok (.getfield 21, 3) := by decide +kernel
theorem d2_goOverCall_15 : decode b2_goOverCall 15 = .ok (.iload_n 1, 1) := by decide +kernel
theorem d2_goOverCall_16 : decode b2_goOverCall 16 = .ok (.aaload, 1) := by decide +kernel
theorem d2_goOverCall_17 : decode b2_goOverCall 17 = .ok (.invokevirtual 57, 3) := by decide +kernel
theorem d2_goOverCall_20 : decode b2_goOverCall 20 = .ok (.ifCond .ne 9, 3) := by decide +kernel
theorem d2_goOverCall_23 : decode b2_goOverCall 23 = .ok (.aload_n 0, 1) := by decide +kernel
theorem d2_goOverCall_24 : decode b2_goOverCall 24 = .ok (.iconst 1, 1) := by decide +kernel
theorem d2_goOverCall_25 : decode b2_goOverCall 25 = .ok (.putfield 41, 3) := by decide +kernel
theorem d2_goOverCall_28 : decode b2_goOverCall 28 = .ok (.return_, 1) := by decide +kernel
theorem d2_goOverCall_29 : decode b2_goOverCall 29 = .ok (.aload_n 0, 1) := by decide +kernel
theorem d2_goOverCall_30 : decode b2_goOverCall 30 = .ok (.getfield 21, 3) := by decide +kernel
theorem d2_goOverCall_33 : decode b2_goOverCall 33 = .ok (.iload_n 1, 1) := by decide +kernel
theorem d2_goOverCall_34 : decode b2_goOverCall 34 = .ok (.aaload, 1) := by decide +kernel
theorem d2_goOverCall_35 : decode b2_goOverCall 35 = .ok (.invokevirtual 162, 3) := by decide +kernel
theorem d2_goOverCall_38 : decode b2_goOverCall 38 = .ok (.iconst 1, 1) := by decide +kernel
theorem d2_goOverCall_39 : decode b2_goOverCall 39 = .ok (.isub, 1) := by decide +kernel
theorem d2_goOverCall_40 : decode b2_goOverCall 40 = .ok (.istore_n 3, 1) := by decide +kernel
theorem d2_goOverCall_41 : decode b2_goOverCall 41 = .ok (.iload_n 3, 1) := by decide +kernel
theorem d2_goOverCall_42 : decode b2_goOverCall 42 = .ok (.ifCond .lt 24, 3) := by decide +kernel
theorem d2_goOverCall_45 : decode b2_goOverCall 45 = .ok (.aload_n 0, 1) := by decide +kernel
theorem d2_goOverCall_46 : decode b2_goOverCall 46 = .ok (.aload_n 0, 1) := by decide +kernel
theorem d2_goOverCall_47 : decode b2_goOverCall 47 = .ok (.getfield 21, 3) := by decide +kernel
theorem d2_goOverCall_50 : decode b2_goOverCall 50 = .ok (.iload_n 1, 1) := by decide +kernel
theorem d2_goOverCall_51 : decode b2_goOverCall 51 = .ok (.aaload, 1) := by decide +kernel
theorem d2_goOverCall_52 : decode b2_goOverCall 52 = .ok (.iload_n 3, 1) := by decide +kernel
theorem d2_goOverCall_53 : decode b2_goOverCall 53 = .ok (.invokevirtual 152, 3) := by decide +kernel
theorem d2_goOverCall_56 : decode b2_goOverCall 56 = .ok (.invokevirtual 90, 3) := by decide +kernel
theorem d2_goOverCall_59 : decode b2_goOverCall 59 = .ok (.pop, 1) := by decide +kernel
theorem d2_goOverCall_60 : decode b2_goOverCall 60 = .ok (.iinc 3 (-1), 3) := by decide +kernel
theorem d2_goOverCall_63 : decode b2_goOverCall 63 = .ok (.goto (-22), 3) := by decide +kernel
theorem d2_goOverCall_66 : decode b2_goOverCall 66 = .ok (.aload_n 0, 1) := by decide +kernel
theorem d2_goOverCall_67 : decode b2_goOverCall 67 = .ok (.aload_n 0, 1) := by decide +kernel
theorem d2_goOverCall_68 : decode b2_goOverCall 68 = .ok (.getfield 21, 3) := by decide +kernel
theorem d2_goOverCall_71 : decode b2_goOverCall 71 = .ok (.iload_n 1, 1) := by decide +kernel
theorem d2_goOverCall_72 : decode b2_goOverCall 72 = .ok (.aaload, 1) := by decide +kernel
theorem d2_goOverCall_73 : decode b2_goOverCall 73 = .ok (.invokevirtual 47, 3) := by decide +kernel
theorem d2_goOverCall_76 : decode b2_goOverCall 76 = .ok (.invokevirtual 124, 3) := by decide +kernel
theorem d2_goOverCall_79 : decode b2_goOverCall 79 = .ok (.return_, 1) := by decide +kernel
theorem d2_goOverSelect_0 : decode b2_goOverSelect 0 = .ok (.aload_n 0, 1) := by decide +kernel
theorem d2_goOverSelect_1 : decode b2_goOverSelect 1 = .ok (.iconst 1, 1) := by decide +kernel
theorem d2_goOverSelect_2 : decode b2_goOverSelect 2 = .ok (.invokevirtual 90, 3) := by decide +kernel
theorem d2_goOverSelect_5 : decode b2_goOverSelect 5 = .ok (.pop, 1) := by decide +kernel
theorem d2_goOverSelect_6 : decode b2_goOverSelect 6 = .ok (.aload_n 0, 1) := by decide +kernel
theorem d2_goOverSelect_7 : decode b2_goOverSelect 7 = .ok (.iconst 4, 1) := by decide +kernel
theorem d2_goOverSelect_8 : decode b2_goOverSelect 8 = .ok (.invokevirtual 90, 3) := by decide +kernel
theorem d2_goOverSelect_11 : decode b2_goOverSelect 11 = .ok (.istore_n 1, 1) := by decide +kernel
theorem d2_goOverSelect_12 : decode b2_goOverSelect 12 = .ok (.aload_n 0, 1) := by decide +kernel
theorem d2_goOverSelect_13 : decode b2_goOverSelect 13 = .ok (.iload_n 1, 1) := by decide +kernel
theorem d2_goOverSelect_14 : decode b2_goOverSelect 14 = .ok (.invokevirtual 90, 3) := by decide +kernel
theorem d2_goOverSelect_17 : decode b2_goOverSelect 17 = .ok (.istore_n 2, 1) := by decide +kernel
theorem d2_goOverSelect_18 : decode b2_goOverSelect 18 = .ok (.aload_n 0, 1) := by decide +kernel
theorem d2_goOverSelect_19 : decode b2_goOverSelect 19 = .ok (.iload_n 1, 1) := by decide +kernel
theorem d2_goOverSelect_20 : decode b2_goOverSelect 20 = .ok (.iconst 4, 1) := by decide +kernel
theorem d2_goOverSelect_21 : decode b2_goOverSelect 21 = .ok (.if_icmp .ne 7, 3) := by decide +kernel
theorem d2_goOverSelect_24 : decode b2_goOverSelect 24 = .ok (.iload_n 2, 1) := by decide +kernel
theorem d2_goOverSelect_25 : decode b2_goOverSelect 25 = .ok (.goto 4, 3) := by decide +kernel
theorem d2_goOverSelect_28 : decode b2_goOverSelect 28 = .ok (.iload_n 1, 1) := by decide +kernel
theorem d2_goOverSelect_29 : decode b2_goOverSelect 29 = .ok (.invokevirtual 124, 3) := by decide +kernel
theorem d2_goOverSelect_32 : decode b2_goOverSelect 32 = .ok (.return_, 1) := by decide +kernel
theorem d2_goOverGlobal_0 : decode b2_goOverGlobal 0 = .ok (.iload_n 2, 1) := by decide +kernel
theorem d2_goOverGlobal_1 : decode b2_goOverGlobal 1 = .ok (.iconst 1, 1) := by decide +kernel
theorem d2_goOverGlobal_2 : decode b2_goOverGlobal 2 = .ok (.iadd, 1) := by decide +kernel
theorem d2_goOverGlobal_3 : decode b2_goOverGlobal 3 = .ok (.istore_n 3, 1) := by decide +kernel
theorem d2_goOverGlobal_4 : decode b2_goOverGlobal 4 = .ok (.iload_n 3, 1) := by decide +kernel
theorem d2_goOverGlobal_5 : decode b2_goOverGlobal 5 = .ok (.iconst 3, 1) := by decide +kernel
theorem d2_goOverGlobal_6 : decode b2_goOverGlobal 6 = .ok (.if_icmp .le 11, 3) := by decide +kernel
theorem d2_goOverGlobal_9 : decode b2_goOverGlobal 9 = .ok (.aload_n 0, 1) := by decide +kernel
theorem d2_goOverGlobal_10 : decode b2_goOverGlobal 10 = .ok (.iconst 1, 1) := by decide +kernel
theorem d2_goOverGlobal_11 : decode b2_goOverGlobal 11 = .ok (.putfield 41, 3) := by decide +kernel
theorem d2_goOverGlobal_14 : decode b2_goOverGlobal 14 = .ok (.goto 23, 3) := by decide +kernel
theorem d2_goOverGlobal_17 : decode b2_goOverGlobal 17 = .ok (.iload_n 1, 1) := by decide +kernel
theorem d2_goOverGlobal_18 : decode b2_goOverGlobal 18 = .ok (.bipush 18, 2) := by decide +kernel
theorem d2_goOverGlobal_20 : decode b2_goOverGlobal 20 = .ok (.if_icmp .ne 11, 3) := by decide +kernel
theorem d2_goOverGlobal_23 : decode b2_goOverGlobal 23 = .ok (.aload_n 0, 1) := by decide +kernel
theorem d2_goOverGlobal_24 : decode b2_goOverGlobal 24 = .ok (.iload_n 3, 1) := by decide +kernel
theorem d2_goOverGlobal_25 : decode b2_goOverGlobal 25 = .ok (.invokevirtual 124, 3) := by decide +kernel
theorem d2_goOverGlobal_28 : decode b2_goOverGlobal 28 = .ok (.goto 9, 3) := by decide +kernel
theorem d2_goOverGlobal_31 : decode b2_goOverGlobal 31 = .ok (.aload_n 0, 1) := by decide +kernel
theorem d2_goOverGlobal_32 : decode b2_goOverGlobal 32 = .ok (.iload_n 3, 1) := by decide +kernel
theorem d2_goOverGlobal_33 : decode b2_goOverGlobal 33 = .ok (.invokevirtual 90, 3) := by decide +kernel
theorem d2_goOverGlobal_36 : decode b2_goOverGlobal 36 = .ok (.pop, 1) := by decide +kernel
theorem d2_goOverGlobal_37 : decode b2_goOverGlobal 37 = .ok (.return_, 1) := by decide +kernel
theorem d2_goOverVariable_0 : decode b2_goOverVariable 0 = .ok (.iload_n 2, 1) := by decide +kernel
theorem d2_goOverVariable_1 : decode b2_goOverVariable 1 = .ok (.ifCond .ne 9, 3) := by decide +kernel
theorem d2_goOverVariable_4 : decode b2_goOverVariable 4 = .ok (.aload_n 0, 1) := by decide +kernel
theorem d2_goOverVariable_5 : decode b2_goOverVariable 5 = .ok (.iconst 1, 1) := by decide +kernel
theorem d2_goOverVariable_6 : decode b2_goOverVariable 6 = .ok (.putfield 41, 3) := by decide +kernel
theorem d2_goOverVariable_9 : decode b2_goOverVariable 9 = .ok (.return_, 1) := by decide +kernel
theorem d2_goOverVariable_10 : decode b2_goOverVariable 10 = .ok (.iload_n 1, 1) := by decide +kernel
theorem d2_goOverVariable_11 : decode b2_goOverVariable 11 = .ok (.bipush 15, 2) := by decide +kernel
theorem d2_goOverVariable_13 : decode b2_goOverVariable 13 = .ok (.if_icmp .eq 9, 3) := by decide +kernel
theorem d2_goOverVariable_16 : decode b2_goOverVariable 16 = .ok (.aload_n 0, 1) := by decide +kernel
theorem d2_goOverVariable_17 : decode b2_goOverVariable 17 = .ok (.iload_n 2, 1) := by decide +kernel
theorem d2_goOverVariable_18 : decode b2_goOverVariable 18 = .ok (.invokevirtual 90, 3) := by decide +kernel
theorem d2_goOverVariable_21 : decode b2_goOverVariable 21 = .ok (.pop, 1) := by decide +kernel
theorem d2_goOverVariable_22 : decode b2_goOverVariable 22 = .ok (.iload_n 1, 1) := by decide +kernel
theorem d2_goOverVariable_23 : decode b2_goOverVariable 23 = .ok (.bipush 16, 2) := by decide +kernel
theorem d2_goOverVariable_25 : decode b2_goOverVariable 25 = .ok (.if_icmp .eq 8, 3) := by decide +kernel
theorem d2_goOverVariable_28 : decode b2_goOverVariable 28 = .ok (.aload_n 0, 1) := by decide +kernel
theorem d2_goOverVariable_29 : decode b2_goOverVariable 29 = .ok (.iload_n 2, 1) := by decide +kernel
theorem d2_goOverVariable_30 : decode b2_goOverVariable 30 = .ok (.invokevirtual 124, 3) := by decide +kernel
theorem d2_goOverVariable_33 : decode b2_goOverVariable 33 = .ok (.return_, 1) := by decide +kernel
theorem d2_goOverSignature_0 : decode b2_goOverSignature 0 = .ok (.aload_n 0, 1) := by decide +kernel
theorem d2_goOverSignature_1 : decode b2_goOverSignature 1 = .ok (.iload_n 1, 1) := by decide +kernel
theorem d2_goOverSignature_2 : decode b2_goOverSignature 2 = .ok (.bipush 100, 2) := by decide +kernel
theorem d2_goOverSignature_4 : decode b2_goOverSignature 4 = .ok (.idiv, 1) := by decide +kernel
theorem d2_goOverSignature_5 : decode b2_goOverSignature 5 = .ok (.invokevirtual 90, 3) := by decide +kernel
theorem d2_goOverSignature_8 : decode b2_goOverSignature 8 = .ok (.pop, 1) := by decide +kernel
theorem d2_goOverSignature_9 : decode b2_goOverSignature 9 = .ok (.aload_n 0, 1) := by decide +kernel
theorem d2_goOverSignature_10 : decode b2_goOverSignature 10 = .ok (.iload_n 1, 1) := by decide +kernel
theorem d2_goOverSignature_11 : decode b2_goOverSignature 11 = .ok (.bipush 10, 2) := by decide +kernel
theorem d2_goOverSignature_13 : decode b2_goOverSignature 13 = .ok (.idiv, 1) := by decide +kernel
theorem d2_goOverSignature_14 : decode b2_goOverSignature 14 = .ok (.bipush 10, 2) := by decide +kernel
theorem d2_goOverSignature_16 : decode b2_goOverSignature 16 = .ok (.irem, 1) := by decide +kernel
theorem d2_goOverSignature_17 : decode b2_goOverSignature 17 = .ok (.invokevirtual 90, 3) := by decide +kernel
theorem d2_goOverSignature_20 : decode b2_goOverSignature 20 = .ok (.pop, 1) := by decide +kernel
theorem d2_goOverSignature_21 : decode b2_goOverSignature 21 = .ok (.aload_n 0, 1) := by decide +kernel
theorem d2_goOverSignature_22 : decode b2_goOverSignature 22 = .ok (.iload_n 1, 1) := by decide +kernel
theorem d2_goOverSignature_23 : decode b2_goOverSignature 23 = .ok (.bipush 10, 2) := by decide +kernel
theorem d2_goOverSignature_25 : decode b2_goOverSignature 25 = .ok (.irem, 1) := by decide +kernel
theorem d2_goOverSignature_26 : decode b2_goOverSignature 26 = .ok (.invokevirtual 124, 3) := by decide +kernel
theorem d2_goOverSignature_29 : decode b2_goOverSignature 29 = .ok (.return_, 1) := by decide +kernel
theorem d2_take_0 : decode b2_take 0 = .ok (.iload_n 1, 1) := by decide +kernel
theorem d2_take_1 : decode b2_take 1 = .ok (.ifCond .ne 5, 3) := by decide +kernel
theorem d2_take_4 : decode b2_take 4 = .ok (.iconst 0, 1) := by decide +kernel
theorem d2_take_5 : decode b2_take 5 = .ok (.ireturn, 1) := by decide +kernel
theorem d2_take_6 : decode b2_take 6 = .ok (.aload_n 0, 1) := by decide +kernel
theorem d2_take_7 : decode b2_take 7 = .ok (.getfield 34, 3) := by decide +kernel
theorem d2_take_10 : decode b2_take 10 = .ok (.aload_n 0, 1) := by decide +kernel
theorem d2_take_11 : decode b2_take 11 = .ok (.getfield 30, 3) := by decide +kernel
theorem d2_take_14 : decode b2_take 14 = .ok (.getfield 130, 3) := by decide +kernel
theorem d2_take_17 : decode b2_take 17 = .ok (.if_icmp .le 12, 3) := by decide +kernel
theorem d2_take_20 : decode b2_take 20 = .ok (.aload_n 0, 1) := by decide +kernel
theorem d2_take_21 : decode b2_take 21 = .ok (.getfield 34, 3) := by decide +kernel
theorem d2_take_24 : decode b2_take 24 = .ok (.bipush 16, 2) := by decide +kernel
theorem d2_take_26 : decode b2_take 26 = .ok (.if_icmp .le 31, 3) := by decide +kernel
theorem d2_take_29 : decode b2_take 29 = .ok (.aload_n 0, 1) := by decide +kernel
theorem d2_take_30 : decode b2_take 30 = .ok (.aload_n 0, 1) := by decide +kernel
theorem d2_take_31 : decode b2_take 31 = .ok (.getfield 41, 3) := by decide +kernel
theorem d2_take_34 : decode b2_take 34 = .ok (.ifCond .ne 13, 3) := by decide +kernel
theorem d2_take_37 : decode b2_take 37 = .ok (.aload_n 0, 1) := by decide +kernel
theorem d2_take_38 : decode b2_take 38 = .ok (.getfield 30, 3) := by decide +kernel
theorem d2_take_41 : decode b2_take 41 = .ok (.getfield 113, 3) := by decide +kernel
theorem d2_take_44 : decode b2_take 44 = .ok (.ifCond .ne 7, 3) := by decide +kernel
theorem d2_take_47 : decode b2_take 47 = .ok (.iconst 1, 1) := by decide +kernel
theorem d2_take_48 : decode b2_take 48 = .ok (.goto 4, 3) := by decide +kernel
theorem d2_take_51 : decode b2_take 51 = .ok (.iconst 0, 1) := by decide +kernel
theorem d2_take_52 : decode b2_take 52 = .ok (.putfield 41, 3) := by decide +kernel
theorem d2_take_55 : decode b2_take 55 = .ok (.iconst 4, 1) := by decide +kernel
theorem d2_take_56 : decode b2_take 56 = .ok (.ireturn, 1) := by decide +kernel
theorem d2_take_57 : decode b2_take 57 = .ok (.aload_n 0, 1) := by decide +kernel
theorem d2_take_58 : decode b2_take 58 = .ok (.dup, 1) := by decide +kernel
theorem d2_take_59 : decode b2_take 59 = .ok (.getfield 34, 3) := by decide +kernel
theorem d2_take_62 : decode b2_take 62 = .ok (.iconst 1, 1) := by decide +kernel
theorem d2_take_63 : decode b2_take 63 = .ok (.isub, 1) := by decide +kernel
theorem d2_take_64 : decode b2_take 64 = .ok (.putfield 34, 3) := by decide +kernel
theorem d2_take_67 : decode b2_take 67 = .ok (.aload_n 0, 1) := by decide +kernel
theorem d2_take_68 : decode b2_take 68 = .ok (.getfield 9, 3) := by decide +kernel
theorem d2_take_71 : decode b2_take 71 = .ok (.aload_n 0, 1) := by decide +kernel
theorem d2_take_72 : decode b2_take 72 = .ok (.getfield 34, 3) := by decide +kernel
theorem d2_take_75 : decode b2_take 75 = .ok (.iaload, 1) := by decide +kernel
theorem d2_take_76 : decode b2_take 76 = .ok (.istore_n 2, 1) := by decide +kernel
theorem d2_take_77 : decode b2_take 77 = .ok (.iload_n 2, 1) := by decide +kernel
theorem d2_take_78 : decode b2_take 78 = .ok (.iload_n 1, 1) := by decide +kernel
theorem d2_take_79 : decode b2_take 79 = .ok (.if_icmp .eq 18, 3) := by decide +kernel
theorem d2_take_82 : decode b2_take 82 = .ok (.iload_n 2, 1) := by decide +kernel
theorem d2_take_83 : decode b2_take 83 = .ok (.iconst 4, 1) := by decide +kernel
theorem d2_take_84 : decode b2_take 84 = .ok (.if_icmp .eq 13, 3) := by decide +kernel
theorem d2_take_87 : decode b2_take 87 = .ok (.iload_n 1, 1) := by decide +kernel
theorem d2_take_88 : decode b2_take 88 = .ok (.iconst 4, 1) := by decide +kernel
theorem d2_take_89 : decode b2_take 89 = .ok (.if_icmp .eq 8, 3) := by decide +kernel
theorem d2_take_92 : decode b2_take 92 = .ok (.aload_n 0, 1) := by decide +kernel
theorem d2_take_93 : decode b2_take 93 = .ok (.iconst 1, 1) := by decide +kernel
theorem d2_take_94 : decode b2_take 94 = .ok (.putfield 41, 3) := by decide +kernel
theorem d2_take_97 : decode b2_take 97 = .ok (.iload_n 2, 1) := by decide +kernel
theorem d2_take_98 : decode b2_take 98 = .ok (.ireturn, 1) := by decide +kernel
theorem d2_put_0 : decode b2_put 0 = .ok (.iload_n 1, 1) := by decide +kernel
theorem d2_put_1 : decode b2_put 1 = .ok (.ifCond .ne 4, 3) := by decide +kernel
theorem d2_put_4 : decode b2_put 4 = .ok (.return_, 1) := by decide +kernel
theorem d2_put_5 : decode b2_put 5 = .ok (.aload_n 0, 1) := by decide +kernel
theorem d2_put_6 : decode b2_put 6 = .ok (.getfield 34, 3) := by decide +kernel
theorem d2_put_9 : decode b2_put 9 = .ok (.ifCond .lt 12, 3) := by decide +kernel
theorem d2_put_12 : decode b2_put 12 = .ok (.aload_n 0, 1) := by decide +kernel
theorem d2_put_13 : decode b2_put 13 = .ok (.getfield 34, 3) := by decide +kernel
theorem d2_put_16 : decode b2_put 16 = .ok (.bipush 16, 2) := by decide +kernel
theorem d2_put_18 : decode b2_put 18 = .ok (.if_icmp .lt 9, 3) := by decide +kernel
theorem d2_put_21 : decode b2_put 21 = .ok (.aload_n 0, 1) := by decide +kernel
theorem d2_put_22 : decode b2_put 22 = .ok (.iconst 1, 1) := by decide +kernel
theorem d2_put_23 : decode b2_put 23 = .ok (.putfield 41, 3) := by decide +kernel
theorem d2_put_26 : decode b2_put 26 = .ok (.return_, 1) := by decide +kernel
theorem d2_put_27 : decode b2_put 27 = .ok (.aload_n 0, 1) := by decide +kernel
theorem d2_put_28 : decode b2_put 28 = .ok (.getfield 9, 3) := by decide +kernel
theorem d2_put_31 : decode b2_put 31 = .ok (.aload_n 0, 1) := by decide +kernel
theorem d2_put_32 : decode b2_put 32 = .ok (.getfield 34, 3) := by decide +kernel
theorem d2_put_35 : decode b2_put 35 = .ok (.iload_n 1, 1) := by decide +kernel
theorem d2_put_36 : decode b2_put 36 = .ok (.iastore, 1) := by decide +kernel
theorem d2_put_37 : decode b2_put 37 = .ok (.aload_n 0, 1) := by decide +kernel
theorem d2_put_38 : decode b2_put 38 = .ok (.dup, 1) := by decide +kernel
theorem d2_put_39 : decode b2_put 39 = .ok (.getfield 34, 3) := by decide +kernel
theorem d2_put_42 : decode b2_put 42 = .ok (.iconst 1, 1) := by decide +kernel
theorem d2_put_43 : decode b2_put 43 = .ok (.iadd, 1) := by decide +kernel
theorem d2_put_44 : decode b2_put 44 = .ok (.putfield 34, 3) := by decide +kernel
theorem d2_put_47 : decode b2_put 47 = .ok (.return_, 1) := by decide +kernel
theorem d2_die_0 : decode b2_die 0 = .ok (.aload_n 0, 1) := by decide +kernel
theorem d2_die_1 : decode b2_die 1 = .ok (.aload_n 0, 1) := by decide +kernel
theorem d2_die_2 : decode b2_die 2 = .ok (.getfield 30, 3) := by decide +kernel
theorem d2_die_5 : decode b2_die 5 = .ok (.getfield 130, 3) := by decide +kernel
theorem d2_die_8 : decode b2_die 8 = .ok (.putfield 34, 3) := by decide +kernel
theorem d2_die_11 : decode b2_die 11 = .ok (.aload_n 0, 1) := by decide +kernel
theorem d2_die_12 : decode b2_die 12 = .ok (.getfield 30, 3) := by decide +kernel
theorem d2_die_15 : decode b2_die 15 = .ok (.iconst 1, 1) := by decide +kernel
theorem d2_die_16 : decode b2_die 16 = .ok (.putfield 113, 3) := by decide +kernel
theorem d2_die_19 : decode b2_die 19 = .ok (.return_, 1) := by decide +kernel
theorem d3_init_0 : decode b3_init 0 = .ok (.aload_n 0, 1) := by decide +kernel
theorem d3_init_1 : decode b3_init 1 = .ok (.invokespecial 3, 3) := by decide +kernel
theorem d3_init_4 : decode b3_init 4 = .ok (.return_, 1) := by decide +kernel
theorem d3_open_0 : decode b3_open 0 = .ok (.aload_n 0, 1) := by decide +kernel
theorem d3_open_1 : decode b3_open 1 = .ok (.iload_n 1, 1) := by decide +kernel
theorem d3_open_2 : decode b3_open 2 = .ok (.putfield 9, 3) := by decide +kernel
theorem d3_open_5 : decode b3_open 5 = .ok (.aload_n 0, 1) := by decide +kernel
theorem d3_open_6 : decode b3_open 6 = .ok (.iload_n 2, 1) := by decide +kernel
theorem d3_open_7 : decode b3_open 7 = .ok (.putfield 15, 3) := by decide +kernel
theorem d3_open_10 : decode b3_open 10 = .ok (.aload_n 0, 1) := by decide +kernel
theorem d3_open_11 : decode b3_open 11 = .ok (.iload_n 3, 1) := by decide +kernel
theorem d3_open_12 : decode b3_open 12 = .ok (.putfield 18, 3) := by decide +kernel
theorem d3_open_15 : decode b3_open 15 = .ok (.aload_n 0, 1) := by decide +kernel
theorem d3_open_16 : decode b3_open 16 = .ok (.iload 4, 2) := by decide +kernel
theorem d3_open_18 : decode b3_open 18 = .ok (.putfield 21, 3) := by decide +kernel
theorem d3_open_21 : decode b3_open 21 = .ok (.aload_n 0, 1) := by decide +kernel
theorem d3_open_22 : decode b3_open 22 = .ok (.iconst 0, 1) := by decide +kernel
theorem d3_open_23 : decode b3_open 23 = .ok (.putfield 24, 3) := by decide +kernel
theorem d3_open_26 : decode b3_open 26 = .ok (.aload_n 0, 1) := by decide +kernel
theorem d3_open_27 : decode b3_open 27 = .ok (.iconst 0, 1) := by decide +kernel
theorem d3_open_28 : decode b3_open 28 = .ok (.putfield 28, 3) := by decide +kernel
theorem d3_open_31 : decode b3_open 31 = .ok (.return_, 1) := by decide +kernel
theorem d3_kindOfJump_0 : decode b3_kindOfJump 0 = .ok (.aload_n 0, 1) := by decide +kernel
theorem d3_kindOfJump_1 : decode b3_kindOfJump 1 = .ok (.getfield 15, 3) := by decide +kernel
theorem d3_kindOfJump_4 : decode b3_kindOfJump 4 = .ok (.iconst 3, 1) := by decide +kernel
theorem d3_kindOfJump_5 : decode b3_kindOfJump 5 = .ok (.if_icmp .ne 7, 3) := by decide +kernel
theorem d3_kindOfJump_8 : decode b3_kindOfJump 8 = .ok (.iconst 0, 1) := by decide +kernel
theorem d3_kindOfJump_9 : decode b3_kindOfJump 9 = .ok (.goto 7, 3) := by decide +kernel
theorem d3_kindOfJump_12 : decode b3_kindOfJump 12 = .ok (.aload_n 0, 1) := by decide +kernel
theorem d3_kindOfJump_13 : decode b3_kindOfJump 13 = .ok (.getfield 21, 3) := by decide +kernel
theorem d3_kindOfJump_16 : decode b3_kindOfJump 16 = .ok (.ireturn, 1) := by decide +kernel
theorem d3_lacksElse_0 : decode b3_lacksElse 0 = .ok (.aload_n 0, 1) := by decide +kernel
theorem d3_lacksElse_1 : decode b3_lacksElse 1 = .ok (.getfield 15, 3) := by decide +kernel
theorem d3_lacksElse_4 : decode b3_lacksElse 4 = .ok (.iconst 4, 1) := by decide +kernel
theorem d3_lacksElse_5 : decode b3_lacksElse 5 = .ok (.if_icmp .ne 14, 3) := by decide +kernel
theorem d3_lacksElse_8 : decode b3_lacksElse 8 = .ok (.aload_n 0, 1) := by decide +kernel
theorem d3_lacksElse_9 : decode b3_lacksElse 9 = .ok (.getfield 28, 3) := by decide +kernel
theorem d3_lacksElse_12 : decode b3_lacksElse 12 = .ok (.ifCond .ne 7, 3) := by decide +kernel
theorem d3_lacksElse_15 : decode b3_lacksElse 15 = .ok (.iconst 1, 1) := by decide +kernel
theorem d3_lacksElse_16 : decode b3_lacksElse 16 = .ok (.goto 4, 3) := by decide +kernel
theorem d3_lacksElse_19 : decode b3_lacksElse 19 = .ok (.iconst 0, 1) := by decide +kernel
theorem d3_lacksElse_20 : decode b3_lacksElse 20 = .ok (.ireturn, 1) := by decide +kernel
theorem d4_init_0 : decode b4_init 0 = .ok (.aload_n 0, 1) := by decide +kernel
theorem d4_init_1 : decode b4_init 1 = .ok (.invokespecial 3, 3) := by decide +kernel
theorem d4_init_4 : decode b4_init 4 = .ok (.aload_n 0, 1) := by decide +kernel
theorem d4_init_5 : decode b4_init 5 = .ok (.bipush 6, 2) := by decide +kernel
theorem d4_init_7 : decode b4_init 7 = .ok (.newarray .int, 2) := by decide +kernel
theorem d4_init_9 : decode b4_init 9 = .ok (.putfield 9, 3) := by decide +kernel
theorem d4_init_12 : decode b4_init 12 = .ok (.aload_n 0, 1) := by decide +kernel
theorem d4_init_13 : decode b4_init 13 = .ok (.bipush 60, 2) := by decide +kernel
theorem d4_init_15 : decode b4_init 15 = .ok (.newarray .int, 2) := by decide +kernel
theorem d4_init_17 : decode b4_init 17 = .ok (.putfield 15, 3) := by decide +kernel
theorem d4_init_20 : decode b4_init 20 = .ok (.aload_n 0, 1) := by decide +kernel
theorem d4_init_21 : decode b4_init 21 = .ok (.bipush 60, 2) := by decide +kernel
theorem d4_init_23 : decode b4_init 23 = .ok (.newarray .int, 2) := by decide +kernel
theorem d4_init_25 : decode b4_init 25 = .ok (.putfield 18, 3) := by decide +kernel
theorem d4_init_28 : decode b4_init 28 = .ok (.aload_n 0, 1) := by decide +kernel
theorem d4_init_29 : decode b4_init 29 = .ok (.bipush 60, 2) := by decide +kernel
theorem d4_init_31 : decode b4_init 31 = .ok (.newarray .int, 2) := by decide +kernel
theorem d4_init_33 : decode b4_init 33 = .ok (.putfield 21, 3) := by decide +kernel
theorem d4_init_36 : decode b4_init 36 = .ok (.return_, 1) := by decide +kernel
theorem d4_reshape_0 : decode b4_reshape 0 = .ok (.aload_n 0, 1) := by decide +kernel
theorem d4_reshape_1 : decode b4_reshape 1 = .ok (.iconst 0, 1) := by decide +kernel
theorem d4_reshape_2 : decode b4_reshape 2 = .ok (.putfield 24, 3) := by decide +kernel
theorem d4_reshape_5 : decode b4_reshape 5 = .ok (.aload_n 0, 1) := by decide +kernel
theorem d4_reshape_6 : decode b4_reshape 6 = .ok (.iload_n 1, 1) := by decide +kernel
theorem d4_reshape_7 : decode b4_reshape 7 = .ok (.invokevirtual 28, 3) := by decide +kernel
theorem d4_reshape_10 : decode b4_reshape 10 = .ok (.aload_n 0, 1) := by decide +kernel
theorem d4_reshape_11 : decode b4_reshape 11 = .ok (.aload_n 0, 1) := by decide +kernel
theorem d4_reshape_12 : decode b4_reshape 12 = .ok (.getfield 24, 3) := by decide +kernel
theorem d4_reshape_15 : decode b4_reshape 15 = .ok (.putfield 32, 3) := by decide +kernel
theorem d4_reshape_18 : decode b4_reshape 18 = .ok (.aload_n 0, 1) := by decide +kernel
theorem d4_reshape_19 : decode b4_reshape 19 = .ok (.iload_n 3, 1) := by decide +kernel
theorem d4_reshape_20 : decode b4_reshape 20 = .ok (.invokevirtual 28, 3) := by decide +kernel
theorem d4_reshape_23 : decode b4_reshape 23 = .ok (.aload_n 0, 1) := by decide +kernel
theorem d4_reshape_24 : decode b4_reshape 24 = .ok (.iload_n 2, 1) := by decide +kernel
theorem d4_reshape_25 : decode b4_reshape 25 = .ok (.putfield 35, 3) := by decide +kernel
theorem d4_reshape_28 : decode b4_reshape 28 = .ok (.aload_n 0, 1) := by decide +kernel
theorem d4_reshape_29 : decode b4_reshape 29 = .ok (.iconst 0, 1) := by decide +kernel
theorem d4_reshape_30 : decode b4_reshape 30 = .ok (.putfield 38, 3) := by decide +kernel
theorem d4_reshape_33 : decode b4_reshape 33 = .ok (.return_, 1) := by decide +kernel
theorem d4_addVariables_0 : decode b4_addVariables 0 = .ok (.aload_n 0, 1) := by decide +kernel
theorem d4_addVariables_1 : decode b4_addVariables 1 = .ok (.iload_n 1, 1) := by decide +kernel
theorem d4_addVariables_2 : decode b4_addVariables 2 = .ok (.bipush 100, 2) := by decide +kernel
theorem d4_addVariables_4 : decode b4_addVariables 4 = .ok (.idiv, 1) := by decide +kernel
theorem d4_addVariables_5 : decode b4_addVariables 5 = .ok (.invokevirtual 41, 3) := by decide +kernel
theorem d4_addVariables_8 : decode b4_addVariables 8 = .ok (.aload_n 0, 1) := by decide +kernel
theorem d4_addVariables_9 : decode b4_addVariables 9 = .ok (.iload_n 1, 1) := by decide +kernel
theorem d4_addVariables_10 : decode b4_addVariables 10 = .ok (.bipush 10, 2) := by decide +kernel
theorem d4_addVariables_12 : decode b4_addVariables 12 = .ok (.idiv, 1) := by decide +kernel
theorem d4_addVariables_13 : decode b4_addVariables 13 = .ok (.bipush 10, 2) := by decide +kernel
theorem d4_addVariables_15 : decode b4_addVariables 15 = .ok (.irem, 1) := by decide +kernel
theorem d4_addVariables_16 : decode b4_addVariables 16 = .ok (.invokevirtual 41, 3) := by decide +kernel
theorem d4_addVariables_19 : decode b4_addVariables 19 = .ok (.aload_n 0, 1) := by decide +kernel
theorem d4_addVariables_20 : decode b4_addVariables 20 = .ok (.iload_n 1, 1) := by decide +kernel
theorem d4_addVariables_21 : decode b4_addVariables 21 = .ok (.bipush 10, 2) := by decide +kernel
theorem d4_addVariables_23 : decode b4_addVariables 23 = .ok (.irem, 1) := by decide +kernel
theorem d4_addVariables_24 : decode b4_addVariables 24 = .ok (.invokevirtual 41, 3) := by decide +kernel
theorem d4_addVariables_27 : decode b4_addVariables 27 = .ok (.return_, 1) := by decide +kernel
theorem d4_addVariable_0 : decode b4_addVariable 0 = .ok (.iload_n 1, 1) := by decide +kernel
theorem d4_addVariable_1 : decode b4_addVariable 1 = .ok (.ifCond .eq 32, 3) := by decide +kernel
theorem d4_addVariable_4 : decode b4_addVariable 4 = .ok (.aload_n 0, 1) := by decide +kernel
theorem d4_addVariable_5 : decode b4_addVariable 5 = .ok (.getfield 24, 3) := by decide +kernel
theorem d4_addVariable_8 : decode b4_addVariable 8 = .ok (.bipush 6, 2) := by decide +kernel
theorem d4_addVariable_10 : decode b4_addVariable 10 = .ok (.if_icmp .ge 23, 3) := by decide +kernel
theorem d4_addVariable_13 : decode b4_addVariable 13 = .ok (.aload_n 0, 1) := by decide +kernel
theorem d4_addVariable_14 : decode b4_addVariable 14 = .ok (.getfield 9, 3) := by decide +kernel
theorem d4_addVariable_17 : decode b4_addVariable 17 = .ok (.aload_n 0, 1) := by decide +kernel
theorem d4_addVariable_18 : decode b4_addVariable 18 = .ok (.getfield 24, 3) := by decide +kernel
theorem d4_addVariable_21 : decode b4_addVariable 21 = .ok (.iload_n 1, 1) := by decide +kernel
theorem d4_addVariable_22 : decode b4_addVariable 22 = .ok (.iastore, 1) := by decide +kernel
theorem d4_addVariable_23 : decode b4_addVariable 23 = .ok (.aload_n 0, 1) := by decide +kernel
theorem d4_addVariable_24 : decode b4_addVariable 24 = .ok (.dup, 1) := by decide +kernel
theorem d4_addVariable_25 : decode b4_addVariable 25 = .ok (.getfield 24, 3) := by decide +kernel
theorem d4_addVariable_28 : decode b4_addVariable 28 = .ok (.iconst 1, 1) := by decide +kernel
theorem d4_addVariable_29 : decode b4_addVariable 29 = .ok (.iadd, 1) := by decide +kernel
theorem d4_addVariable_30 : decode b4_addVariable 30 = .ok (.putfield 24, 3) := by decide +kernel
theorem d4_addVariable_33 : decode b4_addVariable 33 = .ok (.return_, 1) := by decide +kernel
theorem d4_parameterCount_0 : decode b4_parameterCount 0 = .ok (.aload_n 0, 1) := by decide +kernel
theorem d4_parameterCount_1 : decode b4_parameterCount 1 = .ok (.getfield 32, 3) := by decide +kernel
theorem d4_parameterCount_4 : decode b4_parameterCount 4 = .ok (.ireturn, 1) := by decide +kernel
theorem d4_variableCount_0 : decode b4_variableCount 0 = .ok (.aload_n 0, 1) := by decide +kernel
theorem d4_variableCount_1 : decode b4_variableCount 1 = .ok (.getfield 24, 3) := by decide +kernel
theorem d4_variableCount_4 : decode b4_variableCount 4 = .ok (.ireturn, 1) := by decide +kernel
theorem d4_outcome_0 : decode b4_outcome 0 = .ok (.aload_n 0, 1) := by decide +kernel
theorem d4_outcome_1 : decode b4_outcome 1 = .ok (.getfield 35, 3) := by decide +kernel
theorem d4_outcome_4 : decode b4_outcome 4 = .ok (.ireturn, 1) := by decide +kernel
theorem d4_length_0 : decode b4_length 0 = .ok (.aload_n 0, 1) := by decide +kernel
theorem d4_length_1 : decode b4_length 1 = .ok (.getfield 38, 3) := by decide +kernel
theorem d4_length_4 : decode b4_length 4 = .ok (.ireturn, 1) := by decide +kernel
theorem d4_kindOf_0 : decode b4_kindOf 0 = .ok (.iload_n 1, 1) := by decide +kernel
theorem d4_kindOf_1 : decode b4_kindOf 1 = .ok (.ifCond .lt 20, 3) := by decide +kernel
theorem d4_kindOf_4 : decode b4_kindOf 4 = .ok (.iload_n 1, 1) := by decide +kernel
theorem d4_kindOf_5 : decode b4_kindOf 5 = .ok (.aload_n 0, 1) := by decide +kernel
theorem d4_kindOf_6 : decode b4_kindOf 6 = .ok (.getfield 24, 3) := by decide +kernel
theorem d4_kindOf_9 : decode b4_kindOf 9 = .ok (.if_icmp .ge 12, 3) := by decide +kernel
theorem d4_kindOf_12 : decode b4_kindOf 12 = .ok (.aload_n 0, 1) := by decide +kernel
theorem d4_kindOf_13 : decode b4_kindOf 13 = .ok (.getfield 9, 3) := by decide +kernel
theorem d4_kindOf_16 : decode b4_kindOf 16 = .ok (.iload_n 1, 1) := by decide +kernel
theorem d4_kindOf_17 : decode b4_kindOf 17 = .ok (.iaload, 1) := by decide +kernel
theorem d4_kindOf_18 : decode b4_kindOf 18 = .ok (.goto 4, 3) := by decide +kernel
theorem d4_kindOf_21 : decode b4_kindOf 21 = .ok (.iconst 0, 1) := by decide +kernel
theorem d4_kindOf_22 : decode b4_kindOf 22 = .ok (.ireturn, 1) := by decide +kernel
theorem d4_isCalledLike_0 : decode b4_isCalledLike 0 = .ok (.aload_n 0, 1) := by decide +kernel
theorem d4_isCalledLike_1 : decode b4_isCalledLike 1 = .ok (.getfield 32, 3) := by decide +kernel
theorem d4_isCalledLike_4 : decode b4_isCalledLike 4 = .ok (.aload_n 1, 1) := by decide +kernel
theorem d4_isCalledLike_5 : decode b4_isCalledLike 5 = .ok (.getfield 32, 3) := by decide +kernel
theorem d4_isCalledLike_8 : decode b4_isCalledLike 8 = .ok (.if_icmp .ne 14, 3) := by decide +kernel
theorem d4_isCalledLike_11 : decode b4_isCalledLike 11 = .ok (.aload_n 0, 1) := by decide +kernel
theorem d4_isCalledLike_12 : decode b4_isCalledLike 12 = .ok (.getfield 35, 3) := by decide +kernel
theorem d4_isCalledLike_15 : decode b4_isCalledLike 15 = .ok (.aload_n 1, 1) := by decide +kernel
theorem d4_isCalledLike_16 : decode b4_isCalledLike 16 = .ok (.getfield 35, 3) := by decide +kernel
theorem d4_isCalledLike_19 : decode b4_isCalledLike 19 = .ok (.if_icmp .eq 5, 3) := by decide +kernel
theorem d4_isCalledLike_22 : decode b4_isCalledLike 22 = .ok (.iconst 0, 1) := by decide +kernel
theorem d4_isCalledLike_23 : decode b4_isCalledLike 23 = .ok (.ireturn, 1) := by decide +kernel
theorem d4_isCalledLike_24 : decode b4_isCalledLike 24 = .ok (.iconst 0, 1) := by decide +kernel
theorem d4_isCalledLike_25 : decode b4_isCalledLike 25 = .ok (.istore_n 2, 1) := by decide +kernel
theorem d4_isCalledLike_26 : decode b4_isCalledLike 26 = .ok (.iload_n 2, 1) := by decide +kernel
theorem d4_isCalledLike_27 : decode b4_isCalledLike 27 = .ok (.aload_n 0, 1) := by decide +kernel
theorem d4_isCalledLike_28 : decode b4_isCalledLike 28 = .ok (.getfield 32, 3) := by decide +kernel
theorem d4_isCalledLike_31 : decode b4_isCalledLike 31 = .ok (.if_icmp .ge 24, 3) := by decide +kernel
theorem d4_isCalledLike_34 : decode b4_isCalledLike 34 = .ok (.aload_n 0, 1) := by decide +kernel
theorem d4_isCalledLike_35 : decode b4_isCalledLike 35 = .ok (.iload_n 2, 1) := by decide +kernel
theorem d4_isCalledLike_36 : decode b4_isCalledLike 36 = .ok (.invokevirtual 44, 3) := by decide +kernel
theorem d4_isCalledLike_39 : decode b4_isCalledLike 39 = .ok (.aload_n 1, 1) := by decide +kernel
theorem d4_isCalledLike_40 : decode b4_isCalledLike 40 = .ok (.iload_n 2, 1) := by decide +kernel
theorem d4_isCalledLike_41 : decode b4_isCalledLike 41 = .ok (.invokevirtual 44, 3) := by decide +kernel
theorem d4_isCalledLike_44 : decode b4_isCalledLike 44 = .ok (.if_icmp .eq 5, 3) := by decide +kernel
theorem d4_isCalledLike_47 : decode b4_isCalledLike 47 = .ok (.iconst 0, 1) := by decide +kernel
theorem d4_isCalledLike_48 : decode b4_isCalledLike 48 = .ok (.ireturn, 1) := by decide +kernel
theorem d4_isCalledLike_49 : decode b4_isCalledLike 49 = .ok (.iinc 2 1, 3) := by decide +kernel
theorem d4_isCalledLike_52 : decode b4_isCalledLike 52 = .ok (.goto (-26), 3) := by decide +kernel
theorem d4_isCalledLike_55 : decode b4_isCalledLike 55 = .ok (.iconst 1, 1) := by decide +kernel
theorem d4_isCalledLike_56 : decode b4_isCalledLike 56 = .ok (.ireturn, 1) := by decide +kernel
theorem d4_append_0 : decode b4_append 0 = .ok (.aload_n 0, 1) := by decide +kernel
theorem d4_append_1 : decode b4_append 1 = .ok (.getfield 38, 3) := by decide +kernel
theorem d4_append_4 : decode b4_append 4 = .ok (.bipush 60, 2) := by decide +kernel
theorem d4_append_6 : decode b4_append 6 = .ok (.if_icmp .ge 23, 3) := by decide +kernel
theorem d4_append_9 : decode b4_append 9 = .ok (.aload_n 0, 1) := by decide +kernel
theorem d4_append_10 : decode b4_append 10 = .ok (.getfield 15, 3) := by decide +kernel
theorem d4_append_13 : decode b4_append 13 = .ok (.aload_n 0, 1) := by decide +kernel
theorem d4_append_14 : decode b4_append 14 = .ok (.getfield 38, 3) := by decide +kernel
theorem d4_append_17 : decode b4_append 17 = .ok (.iload_n 1, 1) := by decide +kernel
theorem d4_append_18 : decode b4_append 18 = .ok (.iastore, 1) := by decide +kernel
theorem d4_append_19 : decode b4_append 19 = .ok (.aload_n 0, 1) := by decide +kernel
theorem d4_append_20 : decode b4_append 20 = .ok (.dup, 1) := by decide +kernel
theorem d4_append_21 : decode b4_append 21 = .ok (.getfield 38, 3) := by decide +kernel
theorem d4_append_24 : decode b4_append 24 = .ok (.iconst 1, 1) := by decide +kernel
theorem d4_append_25 : decode b4_append 25 = .ok (.iadd, 1) := by decide +kernel
theorem d4_append_26 : decode b4_append 26 = .ok (.putfield 38, 3) := by decide +kernel
theorem d4_append_29 : decode b4_append 29 = .ok (.return_, 1) := by decide +kernel
theorem d4_byteAt_0 : decode b4_byteAt 0 = .ok (.iload_n 1, 1) := by decide +kernel
theorem d4_byteAt_1 : decode b4_byteAt 1 = .ok (.ifCond .lt 20, 3) := by decide +kernel
theorem d4_byteAt_4 : decode b4_byteAt 4 = .ok (.iload_n 1, 1) := by decide +kernel
theorem d4_byteAt_5 : decode b4_byteAt 5 = .ok (.aload_n 0, 1) := by decide +kernel
theorem d4_byteAt_6 : decode b4_byteAt 6 = .ok (.getfield 38, 3) := by decide +kernel
theorem d4_byteAt_9 : decode b4_byteAt 9 = .ok (.if_icmp .ge 12, 3) := by decide +kernel
theorem d4_byteAt_12 : decode b4_byteAt 12 = .ok (.aload_n 0, 1) := by decide +kernel
theorem d4_byteAt_13 : decode b4_byteAt 13 = .ok (.getfield 15, 3) := by decide +kernel
theorem d4_byteAt_16 : decode b4_byteAt 16 = .ok (.iload_n 1, 1) := by decide +kernel
theorem d4_byteAt_17 : decode b4_byteAt 17 = .ok (.iaload, 1) := by decide +kernel
theorem d4_byteAt_18 : decode b4_byteAt 18 = .ok (.goto 4, 3) := by decide +kernel
theorem d4_byteAt_21 : decode b4_byteAt 21 = .ok (.iconst 0, 1) := by decide +kernel
theorem d4_byteAt_22 : decode b4_byteAt 22 = .ok (.ireturn, 1) := by decide +kernel
theorem d4_sizeAt_0 : decode b4_sizeAt 0 = .ok (.aload_n 0, 1) := by decide +kernel
theorem d4_sizeAt_1 : decode b4_sizeAt 1 = .ok (.iload_n 1, 1) := by decide +kernel
theorem d4_sizeAt_2 : decode b4_sizeAt 2 = .ok (.invokevirtual 48, 3) := by decide +kernel
theorem d4_sizeAt_5 : decode b4_sizeAt 5 = .ok (.istore_n 2, 1) := by decide +kernel
theorem d4_sizeAt_6 : decode b4_sizeAt 6 = .ok (.iload_n 2, 1) := by decide +kernel
theorem d4_sizeAt_7 : decode b4_sizeAt 7 = .ok (.invokestatic 51, 3) := by decide +kernel
theorem d4_sizeAt_10 : decode b4_sizeAt 10 = .ok (.ifCond .ne 5, 3) := by decide +kernel
theorem d4_sizeAt_13 : decode b4_sizeAt 13 = .ok (.iconst 0, 1) := by decide +kernel
theorem d4_sizeAt_14 : decode b4_sizeAt 14 = .ok (.ireturn, 1) := by decide +kernel
theorem d4_sizeAt_15 : decode b4_sizeAt 15 = .ok (.iload_n 2, 1) := by decide +kernel
theorem d4_sizeAt_16 : decode b4_sizeAt 16 = .ok (.bipush 9, 2) := by decide +kernel
theorem d4_sizeAt_18 : decode b4_sizeAt 18 = .ok (.if_icmp .ne 24, 3) := by decide +kernel
theorem d4_sizeAt_21 : decode b4_sizeAt 21 = .ok (.aload_n 0, 1) := by decide +kernel
theorem d4_sizeAt_22 : decode b4_sizeAt 22 = .ok (.iload_n 1, 1) := by decide +kernel
theorem d4_sizeAt_23 : decode b4_sizeAt 23 = .ok (.iconst 1, 1) := by decide +kernel
theorem d4_sizeAt_24 : decode b4_sizeAt 24 = .ok (.iadd, 1) := by decide +kernel
theorem d4_sizeAt_25 : decode b4_sizeAt 25 = .ok (.invokevirtual 48, 3) := by decide +kernel
theorem d4_sizeAt_28 : decode b4_sizeAt 28 = .ok (.istore_n 3, 1) := by decide +kernel
theorem d4_sizeAt_29 : decode b4_sizeAt 29 = .ok (.iload_n 3, 1) := by decide +kernel
theorem d4_sizeAt_30 : decode b4_sizeAt 30 = .ok (.iconst 3, 1) := by decide +kernel
theorem d4_sizeAt_31 : decode b4_sizeAt 31 = .ok (.if_icmp .le 7, 3) := by decide +kernel
theorem d4_sizeAt_34 : decode b4_sizeAt 34 = .ok (.iconst 0, 1) := by decide +kernel
theorem d4_sizeAt_35 : decode b4_sizeAt 35 = .ok (.goto 6, 3) := by decide +kernel
theorem d4_sizeAt_38 : decode b4_sizeAt 38 = .ok (.iload_n 3, 1) := by decide +kernel
theorem d4_sizeAt_39 : decode b4_sizeAt 39 = .ok (.iconst 3, 1) := by decide +kernel
theorem d4_sizeAt_40 : decode b4_sizeAt 40 = .ok (.iadd, 1) := by decide +kernel
theorem d4_sizeAt_41 : decode b4_sizeAt 41 = .ok (.ireturn, 1) := by decide +kernel
theorem d4_sizeAt_42 : decode b4_sizeAt 42 = .ok (.iload_n 2, 1) := by decide +kernel
theorem d4_sizeAt_43 : decode b4_sizeAt 43 = .ok (.invokestatic 57, 3) := by decide +kernel
theorem d4_sizeAt_46 : decode b4_sizeAt 46 = .ok (.ifCond .eq 7, 3) := by decide +kernel
theorem d4_sizeAt_49 : decode b4_sizeAt 49 = .ok (.iconst 2, 1) := by decide +kernel
theorem d4_sizeAt_50 : decode b4_sizeAt 50 = .ok (.goto 4, 3) := by decide +kernel
theorem d4_sizeAt_53 : decode b4_sizeAt 53 = .ok (.iconst 1, 1) := by decide +kernel
theorem d4_sizeAt_54 : decode b4_sizeAt 54 = .ok (.ireturn, 1) := by decide +kernel
theorem d4_noteElse_0 : decode b4_noteElse 0 = .ok (.iload_n 1, 1) := by decide +kernel
theorem d4_noteElse_1 : decode b4_noteElse 1 = .ok (.ifCond .lt 16, 3) := by decide +kernel
theorem d4_noteElse_4 : decode b4_noteElse 4 = .ok (.iload_n 1, 1) := by decide +kernel
theorem d4_noteElse_5 : decode b4_noteElse 5 = .ok (.bipush 60, 2) := by decide +kernel
theorem d4_noteElse_7 : decode b4_noteElse 7 = .ok (.if_icmp .ge 10, 3) := by decide +kernel
theorem d4_noteElse_10 : decode b4_noteElse 10 = .ok (.aload_n 0, 1) := by decide +kernel
theorem d4_noteElse_11 : decode b4_noteElse 11 = .ok (.getfield 18, 3) := by decide +kernel
theorem d4_noteElse_14 : decode b4_noteElse 14 = .ok (.iload_n 1, 1) := by decide +kernel
theorem d4_noteElse_15 : decode b4_noteElse 15 = .ok (.iload_n 2, 1) := by decide +kernel
theorem d4_noteElse_16 : decode b4_noteElse 16 = .ok (.iastore, 1) := by decide +kernel
theorem d4_noteElse_17 : decode b4_noteElse 17 = .ok (.return_, 1) := by decide +kernel
theorem d4_noteEnd_0 : decode b4_noteEnd 0 = .ok (.iload_n 1, 1) := by decide +kernel
theorem d4_noteEnd_1 : decode b4_noteEnd 1 = .ok (.ifCond .lt 16, 3) := by decide +kernel
theorem d4_noteEnd_4 : decode b4_noteEnd 4 = .ok (.iload_n 1, 1) := by decide +kernel
theorem d4_noteEnd_5 : decode b4_noteEnd 5 = .ok (.bipush 60, 2) := by decide +kernel
theorem d4_noteEnd_7 : decode b4_noteEnd 7 = .ok (.if_icmp .ge 10, 3) := by decide +kernel
theorem d4_noteEnd_10 : decode b4_noteEnd 10 = .ok (.aload_n 0, 1) := by decide +kernel
theorem d4_noteEnd_11 : decode b4_noteEnd 11 = .ok (.getfield 21, 3) := by decide +kernel
theorem d4_noteEnd_14 : decode b4_noteEnd 14 = .ok (.iload_n 1, 1) := by decide +kernel
theorem d4_noteEnd_15 : decode b4_noteEnd 15 = .ok (.iload_n 2, 1) := by decide +kernel
theorem d4_noteEnd_16 : decode b4_noteEnd 16 = .ok (.iastore, 1) := by decide +kernel
theorem d4_noteEnd_17 : decode b4_noteEnd 17 = .ok (.return_, 1) := by decide +kernel
theorem d4_behindElse_0 : decode b4_behindElse 0 = .ok (.iload_n 1, 1) := by decide +kernel
theorem d4_behindElse_1 : decode b4_behindElse 1 = .ok (.ifCond .lt 18, 3) := by decide +kernel
theorem d4_behindElse_4 : decode b4_behindElse 4 = .ok (.iload_n 1, 1) := by decide +kernel
theorem d4_behindElse_5 : decode b4_behindElse 5 = .ok (.bipush 60, 2) := by decide +kernel
theorem d4_behindElse_7 : decode b4_behindElse 7 = .ok (.if_icmp .ge 12, 3) := by decide +kernel
theorem d4_behindElse_10 : decode b4_behindElse 10 = .ok (.aload_n 0, 1) := by decide +kernel
theorem d4_behindElse_11 : decode b4_behindElse 11 = .ok (.getfield 18, 3) := by decide +kernel
theorem d4_behindElse_14 : decode b4_behindElse 14 = .ok (.iload_n 1, 1) := by decide +kernel
theorem d4_behindElse_15 : decode b4_behindElse 15 = .ok (.iaload, 1) := by decide +kernel
theorem d4_behindElse_16 : decode b4_behindElse 16 = .ok (.goto 4, 3) := by decide +kernel
theorem d4_behindElse_19 : decode b4_behindElse 19 = .ok (.iconst 0, 1) := by decide +kernel
theorem d4_behindElse_20 : decode b4_behindElse 20 = .ok (.ireturn, 1) := by decide +kernel
theorem d4_behindEnd_0 : decode b4_behindEnd 0 = .ok (.iload_n 1, 1) := by decide +kernel
theorem d4_behindEnd_1 : decode b4_behindEnd 1 = .ok (.ifCond .lt 18, 3) := by decide +kernel
theorem d4_behindEnd_4 : decode b4_behindEnd 4 = .ok (.iload_n 1, 1) := by decide +kernel
theorem d4_behindEnd_5 : decode b4_behindEnd 5 = .ok (.bipush 60, 2) := by decide +kernel
theorem d4_behindEnd_7 : decode b4_behindEnd 7 = .ok (.if_icmp .ge 12, 3) := by decide +kernel
theorem d4_behindEnd_10 : decode b4_behindEnd 10 = .ok (.aload_n 0, 1) := by decide +kernel
theorem d4_behindEnd_11 : decode b4_behindEnd 11 = .ok (.getfield 21, 3) := by decide +kernel
theorem d4_behindEnd_14 : decode b4_behindEnd 14 = .ok (.iload_n 1, 1) := by decide +kernel
theorem d4_behindEnd_15 : decode b4_behindEnd 15 = .ok (.iaload, 1) := by decide +kernel
theorem d4_behindEnd_16 : decode b4_behindEnd 16 = .ok (.goto 4, 3) := by decide +kernel
theorem d4_behindEnd_19 : decode b4_behindEnd 19 = .ok (.iconst 0, 1) := by decide +kernel
theorem d4_behindEnd_20 : decode b4_behindEnd 20 = .ok (.ireturn, 1) := by decide +kernel
theorem d5_signature_0 : decode b5_signature 0 = .ok (.iload_n 0, 1) := by decide +kernel
theorem d5_signature_1 : decode b5_signature 1 = .ok (.bipush 30, 2) := by decide +kernel
theorem d5_signature_3 : decode b5_signature 3 = .ok (.if_icmp .lt 12, 3) := by decide +kernel
theorem d5_signature_6 : decode b5_signature 6 = .ok (.iload_n 0, 1) := by decide +kernel
theorem d5_signature_7 : decode b5_signature 7 = .ok (.bipush 45, 2) := by decide +kernel
theorem d5_signature_9 : decode b5_signature 9 = .ok (.if_icmp .ge 6, 3) := by decide +kernel
theorem d5_signature_12 : decode b5_signature 12 = .ok (.bipush 111, 2) := by decide +kernel
theorem d5_signature_14 : decode b5_signature 14 = .ok (.ireturn, 1) := by decide +kernel
theorem d5_signature_15 : decode b5_signature 15 = .ok (.iload_n 0, 1) := by decide +kernel
theorem d5_signature_16 : decode b5_signature 16 = .ok (.bipush 50, 2) := by decide +kernel
theorem d5_signature_18 : decode b5_signature 18 = .ok (.if_icmp .lt 25, 3) := by decide +kernel
theorem d5_signature_21 : decode b5_signature 21 = .ok (.iload_n 0, 1) := by decide +kernel
theorem d5_signature_22 : decode b5_signature 22 = .ok (.bipush 64, 2) := by decide +kernel
theorem d5_signature_24 : decode b5_signature 24 = .ok (.if_icmp .ge 19, 3) := by decide +kernel
theorem d5_signature_27 : decode b5_signature 27 = .ok (.iload_n 0, 1) := by decide +kernel
theorem d5_signature_28 : decode b5_signature 28 = .ok (.bipush 60, 2) := by decide +kernel
theorem d5_signature_30 : decode b5_signature 30 = .ok (.if_icmp .gt 9, 3) := by decide +kernel
theorem d5_signature_33 : decode b5_signature 33 = .ok (.sipush 222, 3) := by decide +kernel
theorem d5_signature_36 : decode b5_signature 36 = .ok (.goto 6, 3) := by decide +kernel
theorem d5_signature_39 : decode b5_signature 39 = .ok (.sipush 221, 3) := by decide +kernel
theorem d5_signature_42 : decode b5_signature 42 = .ok (.ireturn, 1) := by decide +kernel
theorem d5_signature_43 : decode b5_signature 43 = .ok (.iload_n 0, 1) := by decide +kernel
theorem d5_signature_44 : decode b5_signature 44 = .ok (.bipush 70, 2) := by decide +kernel
theorem d5_signature_46 : decode b5_signature 46 = .ok (.if_icmp .lt 25, 3) := by decide +kernel
theorem d5_signature_49 : decode b5_signature 49 = .ok (.iload_n 0, 1) := by decide +kernel
theorem d5_signature_50 : decode b5_signature 50 = .ok (.bipush 76, 2) := by decide +kernel
theorem d5_signature_52 : decode b5_signature 52 = .ok (.if_icmp .ge 19, 3) := by decide +kernel
theorem d5_signature_55 : decode b5_signature 55 = .ok (.iload_n 0, 1) := by decide +kernel
theorem d5_signature_56 : decode b5_signature 56 = .ok (.bipush 73, 2) := by decide +kernel
theorem d5_signature_58 : decode b5_signature 58 = .ok (.if_icmp .gt 9, 3) := by decide +kernel
theorem d5_signature_61 : decode b5_signature 61 = .ok (.sipush 333, 3) := by decide +kernel
theorem d5_signature_64 : decode b5_signature 64 = .ok (.goto 6, 3) := by decide +kernel
theorem d5_signature_67 : decode b5_signature 67 = .ok (.sipush 331, 3) := by decide +kernel
theorem d5_signature_70 : decode b5_signature 70 = .ok (.ireturn, 1) := by decide +kernel
theorem d5_signature_71 : decode b5_signature 71 = .ok (.iload_n 0, 1) := by decide +kernel
theorem d5_signature_72 : decode b5_signature 72 = .ok (.tableswitch 396 1 85 #[356, 396, 396, 396, 396, 396, 396, 396, 396, 396, 396, 396, 396, 396, 396, 396, 396, 396, 396, 358, 360, 362, 364, 364, 374, 367, 367, 370, 396, 396, 396, 396, 396, 396, 396, 396, 396, 396, 396, 396, 396, 396, 396, 396, 364, 396, 396, 396, 396, 396, 396, 396, 396, 396, 396, 396, 396, 396, 396, 396, 396, 396, 396, 377, 396, 396, 396, 396, 396, 396, 396, 396, 396, 396, 396, 381, 396, 396, 396, 377, 374, 385, 388, 392, 374], 356) := by decide +kernel
theorem d5_signature_428 : decode b5_signature 428 = .ok (.iconst 0, 1) := by decide +kernel
theorem d5_signature_429 : decode b5_signature 429 = .ok (.ireturn, 1) := by decide +kernel
theorem d5_signature_430 : decode b5_signature 430 = .ok (.iconst 1, 1) := by decide +kernel
theorem d5_signature_431 : decode b5_signature 431 = .ok (.ireturn, 1) := by decide +kernel
theorem d5_signature_432 : decode b5_signature 432 = .ok (.iconst 2, 1) := by decide +kernel
theorem d5_signature_433 : decode b5_signature 433 = .ok (.ireturn, 1) := by decide +kernel
theorem d5_signature_434 : decode b5_signature 434 = .ok (.iconst 3, 1) := by decide +kernel
theorem d5_signature_435 : decode b5_signature 435 = .ok (.ireturn, 1) := by decide +kernel
theorem d5_signature_436 : decode b5_signature 436 = .ok (.bipush 101, 2) := by decide +kernel
theorem d5_signature_438 : decode b5_signature 438 = .ok (.ireturn, 1) := by decide +kernel
theorem d5_signature_439 : decode b5_signature 439 = .ok (.bipush 110, 2) := by decide +kernel
theorem d5_signature_441 : decode b5_signature 441 = .ok (.ireturn, 1) := by decide +kernel
theorem d5_signature_442 : decode b5_signature 442 = .ok (.sipush 210, 3) := by decide +kernel
theorem d5_signature_445 : decode b5_signature 445 = .ok (.ireturn, 1) := by decide +kernel
theorem d5_signature_446 : decode b5_signature 446 = .ok (.bipush 102, 2) := by decide +kernel
theorem d5_signature_448 : decode b5_signature 448 = .ok (.ireturn, 1) := by decide +kernel
theorem d5_signature_449 : decode b5_signature 449 = .ok (.sipush 201, 3) := by decide +kernel
theorem d5_signature_452 : decode b5_signature 452 = .ok (.ireturn, 1) := by decide +kernel
theorem d5_signature_453 : decode b5_signature 453 = .ok (.sipush 303, 3) := by decide +kernel
theorem d5_signature_456 : decode b5_signature 456 = .ok (.ireturn, 1) := by decide +kernel
theorem d5_signature_457 : decode b5_signature 457 = .ok (.bipush 103, 2) := by decide +kernel
theorem d5_signature_459 : decode b5_signature 459 = .ok (.ireturn, 1) := by decide +kernel
theorem d5_signature_460 : decode b5_signature 460 = .ok (.sipush 301, 3) := by decide +kernel
theorem d5_signature_463 : decode b5_signature 463 = .ok (.ireturn, 1) := by decide +kernel
theorem d5_signature_464 : decode b5_signature 464 = .ok (.sipush 203, 3) := by decide +kernel
theorem d5_signature_467 : decode b5_signature 467 = .ok (.ireturn, 1) := by decide +kernel
theorem d5_signature_468 : decode b5_signature 468 = .ok (.iconst (-1), 1) := by decide +kernel
theorem d5_signature_469 : decode b5_signature 469 = .ok (.ireturn, 1) := by decide +kernel
theorem d5_isKnown_0 : decode b5_isKnown 0 = .ok (.iload_n 0, 1) := by decide +kernel
theorem d5_isKnown_1 : decode b5_isKnown 1 = .ok (.ifCond .lt 9, 3) := by decide +kernel
theorem d5_isKnown_4 : decode b5_isKnown 4 = .ok (.iload_n 0, 1) := by decide +kernel
theorem d5_isKnown_5 : decode b5_isKnown 5 = .ok (.bipush 19, 2) := by decide +kernel
theorem d5_isKnown_7 : decode b5_isKnown 7 = .ok (.if_icmp .le 11, 3) := by decide +kernel
theorem d5_isKnown_10 : decode b5_isKnown 10 = .ok (.iload_n 0, 1) := by decide +kernel
theorem d5_isKnown_11 : decode b5_isKnown 11 = .ok (.invokestatic 9, 3) := by decide +kernel
theorem d5_isKnown_14 : decode b5_isKnown 14 = .ok (.iconst (-1), 1) := by decide +kernel
theorem d5_isKnown_15 : decode b5_isKnown 15 = .ok (.if_icmp .eq 7, 3) := by decide +kernel
theorem d5_isKnown_18 : decode b5_isKnown 18 = .ok (.iconst 1, 1) := by decide +kernel
theorem d5_isKnown_19 : decode b5_isKnown 19 = .ok (.goto 4, 3) := by decide +kernel
theorem d5_isKnown_22 : decode b5_isKnown 22 = .ok (.iconst 0, 1) := by decide +kernel
theorem d5_isKnown_23 : decode b5_isKnown 23 = .ok (.ireturn, 1) := by decide +kernel
theorem d5_hasOperand_0 : decode b5_hasOperand 0 = .ok (.iload_n 0, 1) := by decide +kernel
theorem d5_hasOperand_1 : decode b5_hasOperand 1 = .ok (.iconst 2, 1) := by decide +kernel
theorem d5_hasOperand_2 : decode b5_hasOperand 2 = .ok (.if_icmp .lt 8, 3) := by decide +kernel
theorem d5_hasOperand_5 : decode b5_hasOperand 5 = .ok (.iload_n 0, 1) := by decide +kernel
theorem d5_hasOperand_6 : decode b5_hasOperand 6 = .ok (.iconst 4, 1) := by decide +kernel
theorem d5_hasOperand_7 : decode b5_hasOperand 7 = .ok (.if_icmp .le 39, 3) := by decide +kernel
theorem d5_hasOperand_10 : decode b5_hasOperand 10 = .ok (.iload_n 0, 1) := by decide +kernel
theorem d5_hasOperand_11 : decode b5_hasOperand 11 = .ok (.bipush 7, 2) := by decide +kernel
theorem d5_hasOperand_13 : decode b5_hasOperand 13 = .ok (.if_icmp .lt 9, 3) := by decide +kernel
theorem d5_hasOperand_16 : decode b5_hasOperand 16 = .ok (.iload_n 0, 1) := by decide +kernel
theorem d5_hasOperand_17 : decode b5_hasOperand 17 = .ok (.bipush 9, 2) := by decide +kernel
theorem d5_hasOperand_19 : decode b5_hasOperand 19 = .ok (.if_icmp .le 27, 3) := by decide +kernel
theorem d5_hasOperand_22 : decode b5_hasOperand 22 = .ok (.iload_n 0, 1) := by decide +kernel
theorem d5_hasOperand_23 : decode b5_hasOperand 23 = .ok (.bipush 11, 2) := by decide +kernel
theorem d5_hasOperand_25 : decode b5_hasOperand 25 = .ok (.if_icmp .eq 21, 3) := by decide +kernel
theorem d5_hasOperand_28 : decode b5_hasOperand 28 = .ok (.iload_n 0, 1) := by decide +kernel
theorem d5_hasOperand_29 : decode b5_hasOperand 29 = .ok (.bipush 12, 2) := by decide +kernel
theorem d5_hasOperand_31 : decode b5_hasOperand 31 = .ok (.if_icmp .eq 15, 3) := by decide +kernel
theorem d5_hasOperand_34 : decode b5_hasOperand 34 = .ok (.iload_n 0, 1) := by decide +kernel
theorem d5_hasOperand_35 : decode b5_hasOperand 35 = .ok (.bipush 15, 2) := by decide +kernel
theorem d5_hasOperand_37 : decode b5_hasOperand 37 = .ok (.if_icmp .lt 13, 3) := by decide +kernel
theorem d5_hasOperand_40 : decode b5_hasOperand 40 = .ok (.iload_n 0, 1) := by decide +kernel
theorem d5_hasOperand_41 : decode b5_hasOperand 41 = .ok (.bipush 28, 2) := by decide +kernel
theorem d5_hasOperand_43 : decode b5_hasOperand 43 = .ok (.if_icmp .gt 7, 3) := by decide +kernel
theorem d5_hasOperand_46 : decode b5_hasOperand 46 = .ok (.iconst 1, 1) := by decide +kernel
theorem d5_hasOperand_47 : decode b5_hasOperand 47 = .ok (.goto 4, 3) := by decide +kernel
theorem d5_hasOperand_50 : decode b5_hasOperand 50 = .ok (.iconst 0, 1) := by decide +kernel
theorem d5_hasOperand_51 : decode b5_hasOperand 51 = .ok (.ireturn, 1) := by decide +kernel
theorem d6_init_0 : decode b6_init 0 = .ok (.aload_n 0, 1) := by decide +kernel
theorem d6_init_1 : decode b6_init 1 = .ok (.invokespecial 3, 3) := by decide +kernel
theorem d6_init_4 : decode b6_init 4 = .ok (.aload_n 0, 1) := by decide +kernel
theorem d6_init_5 : decode b6_init 5 = .ok (.bipush 6, 2) := by decide +kernel
theorem d6_init_7 : decode b6_init 7 = .ok (.anewarray 9, 3) := by decide +kernel
theorem d6_init_10 : decode b6_init 10 = .ok (.putfield 11, 3) := by decide +kernel
theorem d6_init_13 : decode b6_init 13 = .ok (.aload_n 0, 1) := by decide +kernel
theorem d6_init_14 : decode b6_init 14 = .ok (.new 17, 3) := by decide +kernel
theorem d6_init_17 : decode b6_init 17 = .ok (.dup, 1) := by decide +kernel
theorem d6_init_18 : decode b6_init 18 = .ok (.invokespecial 19, 3) := by decide +kernel
theorem d6_init_21 : decode b6_init 21 = .ok (.putfield 20, 3) := by decide +kernel
theorem d6_init_24 : decode b6_init 24 = .ok (.aload_n 0, 1) := by decide +kernel
theorem d6_init_25 : decode b6_init 25 = .ok (.new 24, 3) := by decide +kernel
theorem d6_init_28 : decode b6_init 28 = .ok (.dup, 1) := by decide +kernel
theorem d6_init_29 : decode b6_init 29 = .ok (.iconst 3, 1) := by decide +kernel
theorem d6_init_30 : decode b6_init 30 = .ok (.invokespecial 26, 3) := by decide +kernel
theorem d6_init_33 : decode b6_init 33 = .ok (.putfield 29, 3) := by decide +kernel
theorem d6_init_36 : decode b6_init 36 = .ok (.aload_n 0, 1) := by decide +kernel
theorem d6_init_37 : decode b6_init 37 = .ok (.new 24, 3) := by decide +kernel
theorem d6_init_40 : decode b6_init 40 = .ok (.dup, 1) := by decide +kernel
theorem d6_init_41 : decode b6_init 41 = .ok (.iconst 1, 1) := by decide +kernel
theorem d6_init_42 : decode b6_init 42 = .ok (.invokespecial 26, 3) := by decide +kernel
theorem d6_init_45 : decode b6_init 45 = .ok (.putfield 33, 3) := by decide +kernel
theorem d6_init_48 : decode b6_init 48 = .ok (.aload_n 0, 1) := by decide +kernel
theorem d6_init_49 : decode b6_init 49 = .ok (.aload_n 1, 1) := by decide +kernel
theorem d6_init_50 : decode b6_init 50 = .ok (.putfield 36, 3) := by decide +kernel
theorem d6_init_53 : decode b6_init 53 = .ok (.aload_n 0, 1) := by decide +kernel
theorem d6_init_54 : decode b6_init 54 = .ok (.aload_n 2, 1) := by decide +kernel
theorem d6_init_55 : decode b6_init 55 = .ok (.putfield 40, 3) := by decide +kernel
theorem d6_init_58 : decode b6_init 58 = .ok (.iconst 0, 1) := by decide +kernel
theorem d6_init_59 : decode b6_init 59 = .ok (.istore_n 3, 1) := by decide +kernel
theorem d6_init_60 : decode b6_init 60 = .ok (.iload_n 3, 1) := by decide +kernel
theorem d6_init_61 : decode b6_init 61 = .ok (.bipush 6, 2) := by decide +kernel
theorem d6_init_63 : decode b6_init 63 = .ok (.if_icmp .ge 25, 3) := by decide +kernel
theorem d6_init_66 : decode b6_init 66 = .ok (.aload_n 0, 1) := by decide +kernel
theorem d6_init_67 : decode b6_init 67 = .ok (.getfield 11, 3) := by decide +kernel
theorem d6_init_70 : decode b6_init 70 = .ok (.iload_n 3, 1) := by decide +kernel
theorem d6_init_71 : decode b6_init 71 = .ok (.new 9, 3) := by decide +kernel
theorem d6_init_74 : decode b6_init 74 = .ok (.dup, 1) := by decide +kernel
theorem d6_init_75 : decode b6_init 75 = .ok (.aload_n 1, 1) := by decide +kernel
theorem d6_init_76 : decode b6_init 76 = .ok (.iconst 0, 1) := by decide +kernel
theorem d6_init_77 : decode b6_init 77 = .ok (.aaload, 1) := by decide +kernel
theorem d6_init_78 : decode b6_init 78 = .ok (.invokespecial 44, 3) := by decide +kernel
theorem d6_init_81 : decode b6_init 81 = .ok (.aastore, 1) := by decide +kernel
theorem d6_init_82 : decode b6_init 82 = .ok (.iinc 3 1, 3) := by decide +kernel
theorem d6_init_85 : decode b6_init 85 = .ok (.goto (-25), 3) := by decide +kernel
theorem d6_init_88 : decode b6_init 88 = .ok (.return_, 1) := by decide +kernel
theorem d6_depth_0 : decode b6_depth 0 = .ok (.aload_n 0, 1) := by decide +kernel
theorem d6_depth_1 : decode b6_depth 1 = .ok (.getfield 47, 3) := by decide +kernel
theorem d6_depth_4 : decode b6_depth 4 = .ok (.ireturn, 1) := by decide +kernel
theorem d6_outcomeKind_0 : decode b6_outcomeKind 0 = .ok (.aload_n 0, 1) := by decide +kernel
theorem d6_outcomeKind_1 : decode b6_outcomeKind 1 = .ok (.getfield 51, 3) := by decide +kernel
theorem d6_outcomeKind_4 : decode b6_outcomeKind 4 = .ok (.ireturn, 1) := by decide +kernel
theorem d6_outcomeNumber_0 : decode b6_outcomeNumber 0 = .ok (.aload_n 0, 1) := by decide +kernel
theorem d6_outcomeNumber_1 : decode b6_outcomeNumber 1 = .ok (.getfield 33, 3) := by decide +kernel
theorem d6_outcomeNumber_4 : decode b6_outcomeNumber 4 = .ok (.iconst 0, 1) := by decide +kernel
theorem d6_outcomeNumber_5 : decode b6_outcomeNumber 5 = .ok (.invokevirtual 54, 3) := by decide +kernel
theorem d6_outcomeNumber_8 : decode b6_outcomeNumber 8 = .ok (.lreturn, 1) := by decide +kernel
theorem d6_outcomeReal_0 : decode b6_outcomeReal 0 = .ok (.aload_n 0, 1) := by decide +kernel
theorem d6_outcomeReal_1 : decode b6_outcomeReal 1 = .ok (.getfield 33, 3) := by decide +kernel
theorem d6_outcomeReal_4 : decode b6_outcomeReal 4 = .ok (.iconst 0, 1) := by decide +kernel
theorem d6_outcomeReal_5 : decode b6_outcomeReal 5 = .ok (.invokevirtual 58, 3) := by decide +kernel
theorem d6_outcomeReal_8 : decode b6_outcomeReal 8 = .ok (.dreturn, 1) := by decide +kernel
theorem d6_begin_0 : decode b6_begin 0 = .ok (.aload_n 0, 1) := by decide +kernel
theorem d6_begin_1 : decode b6_begin 1 = .ok (.iconst 1, 1) := by decide +kernel
theorem d6_begin_2 : decode b6_begin 2 = .ok (.putfield 47, 3) := by decide +kernel
theorem d6_begin_5 : decode b6_begin 5 = .ok (.aload_n 0, 1) := by decide +kernel
theorem d6_begin_6 : decode b6_begin 6 = .ok (.getfield 11, 3) := by decide +kernel
theorem d6_begin_9 : decode b6_begin 9 = .ok (.iconst 0, 1) := by decide +kernel
theorem d6_begin_10 : decode b6_begin 10 = .ok (.aaload, 1) := by decide +kernel
theorem d6_begin_11 : decode b6_begin 11 = .ok (.aload_n 1, 1) := by decide +kernel
theorem d6_begin_12 : decode b6_begin 12 = .ok (.invokevirtual 62, 3) := by decide +kernel
theorem d6_begin_15 : decode b6_begin 15 = .ok (.iconst 0, 1) := by decide +kernel
theorem d6_begin_16 : decode b6_begin 16 = .ok (.istore_n 3, 1) := by decide +kernel
theorem d6_begin_17 : decode b6_begin 17 = .ok (.iload_n 3, 1) := by decide +kernel
theorem d6_begin_18 : decode b6_begin 18 = .ok (.aload_n 1, 1) := by decide +kernel
theorem d6_begin_19 : decode b6_begin 19 = .ok (.invokevirtual 65, 3) := by decide +kernel
theorem d6_begin_22 : decode b6_begin 22 = .ok (.if_icmp .ge 28, 3) := by decide +kernel
theorem d6_begin_25 : decode b6_begin 25 = .ok (.iload_n 3, 1) := by decide +kernel
theorem d6_begin_26 : decode b6_begin 26 = .ok (.aload_n 2, 1) := by decide +kernel
theorem d6_begin_27 : decode b6_begin 27 = .ok (.arraylength, 1) := by decide +kernel
theorem d6_begin_28 : decode b6_begin 28 = .ok (.if_icmp .ge 22, 3) := by decide +kernel
theorem d6_begin_31 : decode b6_begin 31 = .ok (.aload_n 0, 1) := by decide +kernel
theorem d6_begin_32 : decode b6_begin 32 = .ok (.getfield 11, 3) := by decide +kernel
theorem d6_begin_35 : decode b6_begin 35 = .ok (.iconst 0, 1) := by decide +kernel
theorem d6_begin_36 : decode b6_begin 36 = .ok (.aaload, 1) := by decide +kernel
theorem d6_begin_37 : decode b6_begin 37 = .ok (.iload_n 3, 1) := by decide +kernel
theorem d6_begin_38 : decode b6_begin 38 = .ok (.aload_n 2, 1) := by decide +kernel
theorem d6_begin_39 : decode b6_begin 39 = .ok (.iload_n 3, 1) := by decide +kernel
theorem d6_begin_40 : decode b6_begin 40 = .ok (.iaload, 1) := by decide +kernel
theorem d6_begin_41 : decode b6_begin 41 = .ok (.invokevirtual 71, 3) := by decide +kernel
theorem d6_begin_44 : decode b6_begin 44 = .ok (.iinc 3 1, 3) := by decide +kernel
theorem d6_begin_47 : decode b6_begin 47 = .ok (.goto (-30), 3) := by decide +kernel
theorem d6_begin_50 : decode b6_begin 50 = .ok (.return_, 1) := by decide +kernel
theorem d6_step_0 : decode b6_step 0 = .ok (.aload_n 0, 1) := by decide +kernel
theorem d6_step_1 : decode b6_step 1 = .ok (.getfield 47, 3) := by decide +kernel
theorem d6_step_4 : decode b6_step 4 = .ok (.iconst 1, 1) := by decide +kernel
theorem d6_step_5 : decode b6_step 5 = .ok (.if_icmp .lt 12, 3) := by decide +kernel
theorem d6_step_8 : decode b6_step 8 = .ok (.aload_n 0, 1) := by decide +kernel
theorem d6_step_9 : decode b6_step 9 = .ok (.getfield 47, 3) := by decide +kernel
theorem d6_step_12 : decode b6_step 12 = .ok (.bipush 6, 2) := by decide +kernel
theorem d6_step_14 : decode b6_step 14 = .ok (.if_icmp .le 5, 3) := by decide +kernel
theorem d6_step_17 : decode b6_step 17 = .ok (.iconst 0, 1) := by decide +kernel
theorem d6_step_18 : decode b6_step 18 = .ok (.ireturn, 1) := by decide +kernel
theorem d6_step_19 : decode b6_step 19 = .ok (.aload_n 0, 1) := by decide +kernel
theorem d6_step_20 : decode b6_step 20 = .ok (.getfield 11, 3) := by decide +kernel
theorem d6_step_23 : decode b6_step 23 = .ok (.aload_n 0, 1) := by decide +kernel
theorem d6_step_24 : decode b6_step 24 = .ok (.getfield 47, 3) := by decide +kernel
theorem d6_step_27 : decode b6_step 27 = .ok (.iconst 1, 1) := by decide +kernel
theorem d6_step_28 : decode b6_step 28 = .ok (.isub, 1) := by decide +kernel
theorem d6_step_29 : decode b6_step 29 = .ok (.aaload, 1) := by decide +kernel
theorem d6_step_30 : decode b6_step 30 = .ok (.astore_n 1, 1) := by decide +kernel
theorem d6_step_31 : decode b6_step 31 = .ok (.aload_n 1, 1) := by decide +kernel
theorem d6_step_32 : decode b6_step 32 = .ok (.getfield 75, 3) := by decide +kernel
theorem d6_step_35 : decode b6_step 35 = .ok (.istore_n 2, 1) := by decide +kernel
theorem d6_step_36 : decode b6_step 36 = .ok (.aload_n 1, 1) := by decide +kernel
theorem d6_step_37 : decode b6_step 37 = .ok (.getfield 78, 3) := by decide +kernel
theorem d6_step_40 : decode b6_step 40 = .ok (.iload_n 2, 1) := by decide +kernel
theorem d6_step_41 : decode b6_step 41 = .ok (.invokevirtual 82, 3) := by decide +kernel
theorem d6_step_44 : decode b6_step 44 = .ok (.istore_n 3, 1) := by decide +kernel
theorem d6_step_45 : decode b6_step 45 = .ok (.aload_n 1, 1) := by decide +kernel
theorem d6_step_46 : decode b6_step 46 = .ok (.getfield 78, 3) := by decide +kernel
theorem d6_step_49 : decode b6_step 49 = .ok (.iload_n 2, 1) := by decide +kernel
theorem d6_step_50 : decode b6_step 50 = .ok (.iconst 1, 1) := by decide +kernel
theorem d6_step_51 : decode b6_step 51 = .ok (.iadd, 1) := by decide +kernel
theorem d6_step_52 : decode b6_step 52 = .ok (.invokevirtual 82, 3) := by decide +kernel
theorem d6_step_55 : decode b6_step 55 = .ok (.istore 4, 2) := by decide +kernel
theorem d6_step_57 : decode b6_step 57 = .ok (.aload_n 1, 1) := by decide +kernel
theorem d6_step_58 : decode b6_step 58 = .ok (.iload_n 2, 1) := by decide +kernel
theorem d6_step_59 : decode b6_step 59 = .ok (.aload_n 1, 1) := by decide +kernel
theorem d6_step_60 : decode b6_step 60 = .ok (.getfield 78, 3) := by decide +kernel
theorem d6_step_63 : decode b6_step 63 = .ok (.iload_n 2, 1) := by decide +kernel
theorem d6_step_64 : decode b6_step 64 = .ok (.invokevirtual 86, 3) := by decide +kernel
theorem d6_step_67 : decode b6_step 67 = .ok (.iadd, 1) := by decide +kernel
theorem d6_step_68 : decode b6_step 68 = .ok (.putfield 75, 3) := by decide +kernel
theorem d6_step_71 : decode b6_step 71 = .ok (.iload_n 3, 1) := by decide +kernel
theorem d6_step_72 : decode b6_step 72 = .ok (.bipush 6, 2) := by decide +kernel
theorem d6_step_74 : decode b6_step 74 = .ok (.if_icmp .gt 11, 3) := by decide +kernel
theorem d6_step_77 : decode b6_step 77 = .ok (.aload_n 0, 1) := by decide +kernel
theorem d6_step_78 : decode b6_step 78 = .ok (.aload_n 1, 1) := by decide +kernel
theorem d6_step_79 : decode b6_step 79 = .ok (.iload_n 2, 1) := by decide +kernel
theorem d6_step_80 : decode b6_step 80 = .ok (.iload_n 3, 1) := by decide +kernel
theorem d6_step_81 : decode b6_step 81 = .ok (.invokevirtual 91, 3) := by decide +kernel
theorem d6_step_84 : decode b6_step 84 = .ok (.ireturn, 1) := by decide +kernel
theorem d6_step_85 : decode b6_step 85 = .ok (.iload_n 3, 1) := by decide +kernel
theorem d6_step_86 : decode b6_step 86 = .ok (.bipush 10, 2) := by decide +kernel
theorem d6_step_88 : decode b6_step 88 = .ok (.if_icmp .gt 13, 3) := by decide +kernel
theorem d6_step_91 : decode b6_step 91 = .ok (.aload_n 0, 1) := by decide +kernel
theorem d6_step_92 : decode b6_step 92 = .ok (.aload_n 1, 1) := by decide +kernel
theorem d6_step_93 : decode b6_step 93 = .ok (.iload_n 2, 1) := by decide +kernel
theorem d6_step_94 : decode b6_step 94 = .ok (.iload_n 3, 1) := by decide +kernel
theorem d6_step_95 : decode b6_step 95 = .ok (.iload 4, 2) := by decide +kernel
theorem d6_step_97 : decode b6_step 97 = .ok (.invokevirtual 95, 3) := by decide +kernel
theorem d6_step_100 : decode b6_step 100 = .ok (.ireturn, 1) := by decide +kernel
theorem d6_step_101 : decode b6_step 101 = .ok (.iload_n 3, 1) := by decide +kernel
theorem d6_step_102 : decode b6_step 102 = .ok (.bipush 12, 2) := by decide +kernel
theorem d6_step_104 : decode b6_step 104 = .ok (.if_icmp .gt 12, 3) := by decide +kernel
theorem d6_step_107 : decode b6_step 107 = .ok (.aload_n 0, 1) := by decide +kernel
theorem d6_step_108 : decode b6_step 108 = .ok (.aload_n 1, 1) := by decide +kernel
theorem d6_step_109 : decode b6_step 109 = .ok (.iload_n 3, 1) := by decide +kernel
theorem d6_step_110 : decode b6_step 110 = .ok (.iload 4, 2) := by decide +kernel
theorem d6_step_112 : decode b6_step 112 = .ok (.invokevirtual 99, 3) := by decide +kernel
theorem d6_step_115 : decode b6_step 115 = .ok (.ireturn, 1) := by decide +kernel
theorem d6_step_116 : decode b6_step 116 = .ok (.iload_n 3, 1) := by decide +kernel
theorem d6_step_117 : decode b6_step 117 = .ok (.bipush 22, 2) := by decide +kernel
theorem d6_step_119 : decode b6_step 119 = .ok (.if_icmp .gt 12, 3) := by decide +kernel
theorem d6_step_122 : decode b6_step 122 = .ok (.aload_n 0, 1) := by decide +kernel
theorem d6_step_123 : decode b6_step 123 = .ok (.aload_n 1, 1) := by decide +kernel
theorem d6_step_124 : decode b6_step 124 = .ok (.iload_n 3, 1) := by decide +kernel
theorem d6_step_125 : decode b6_step 125 = .ok (.iload 4, 2) := by decide +kernel
theorem d6_step_127 : decode b6_step 127 = .ok (.invokevirtual 102, 3) := by decide +kernel
theorem d6_step_130 : decode b6_step 130 = .ok (.ireturn, 1) := by decide +kernel
theorem d6_step_131 : decode b6_step 131 = .ok (.aload_n 0, 1) := by decide +kernel
theorem d6_step_132 : decode b6_step 132 = .ok (.aload_n 1, 1) := by decide +kernel
theorem d6_step_133 : decode b6_step 133 = .ok (.getfield 105, 3) := by decide +kernel
theorem d6_step_136 : decode b6_step 136 = .ok (.iload_n 3, 1) := by decide +kernel
theorem d6_step_137 : decode b6_step 137 = .ok (.iload 4, 2) := by decide +kernel
theorem d6_step_139 : decode b6_step 139 = .ok (.invokevirtual 108, 3) := by decide +kernel
theorem d6_step_142 : decode b6_step 142 = .ok (.ireturn, 1) := by decide +kernel
theorem d6_stepFrames_0 : decode b6_stepFrames 0 = .ok (.iload_n 3, 1) := by decide +kernel
theorem d6_stepFrames_1 : decode b6_stepFrames 1 = .ok (.tableswitch 87 0 6 #[43, 87, 45, 45, 53, 61, 68], 43) := by decide +kernel
theorem d6_stepFrames_44 : decode b6_stepFrames 44 = .ok (.iconst 1, 1) := by decide +kernel
theorem d6_stepFrames_45 : decode b6_stepFrames 45 = .ok (.ireturn, 1) := by decide +kernel
theorem d6_stepFrames_46 : decode b6_stepFrames 46 = .ok (.aload_n 1, 1) := by decide +kernel
theorem d6_stepFrames_47 : decode b6_stepFrames 47 = .ok (.iload_n 2, 1) := by decide +kernel
theorem d6_stepFrames_48 : decode b6_stepFrames 48 = .ok (.invokevirtual 112, 3) := by decide +kernel
theorem d6_stepFrames_51 : decode b6_stepFrames 51 = .ok (.goto 37, 3) := by decide +kernel
theorem d6_stepFrames_54 : decode b6_stepFrames 54 = .ok (.aload_n 1, 1) := by decide +kernel
theorem d6_stepFrames_55 : decode b6_stepFrames 55 = .ok (.iload_n 2, 1) := by decide +kernel
theorem d6_stepFrames_56 : decode b6_stepFrames 56 = .ok (.invokevirtual 115, 3) := by decide +kernel
theorem d6_stepFrames_59 : decode b6_stepFrames 59 = .ok (.goto 29, 3) := by decide +kernel
theorem d6_stepFrames_62 : decode b6_stepFrames 62 = .ok (.aload_n 1, 1) := by decide +kernel
theorem d6_stepFrames_63 : decode b6_stepFrames 63 = .ok (.invokevirtual 118, 3) := by decide +kernel
theorem d6_stepFrames_66 : decode b6_stepFrames 66 = .ok (.goto 22, 3) := by decide +kernel
theorem d6_stepFrames_69 : decode b6_stepFrames 69 = .ok (.aload_n 1, 1) := by decide +kernel
theorem d6_stepFrames_70 : decode b6_stepFrames 70 = .ok (.invokevirtual 121, 3) := by decide +kernel
theorem d6_stepFrames_73 : decode b6_stepFrames 73 = .ok (.aload_n 1, 1) := by decide +kernel
theorem d6_stepFrames_74 : decode b6_stepFrames 74 = .ok (.getfield 124, 3) := by decide +kernel
theorem d6_stepFrames_77 : decode b6_stepFrames 77 = .ok (.ifCond .gt 11, 3) := by decide +kernel
theorem d6_stepFrames_80 : decode b6_stepFrames 80 = .ok (.aload_n 0, 1) := by decide +kernel
theorem d6_stepFrames_81 : decode b6_stepFrames 81 = .ok (.aload_n 1, 1) := by decide +kernel
theorem d6_stepFrames_82 : decode b6_stepFrames 82 = .ok (.invokevirtual 127, 3) := by decide +kernel
theorem d6_stepFrames_85 : decode b6_stepFrames 85 = .ok (.goto 3, 3) := by decide +kernel
theorem d6_stepFrames_88 : decode b6_stepFrames 88 = .ok (.iconst 0, 1) := by decide +kernel
theorem d6_stepFrames_89 : decode b6_stepFrames 89 = .ok (.ireturn, 1) := by decide +kernel
theorem d6_stepJumps_0 : decode b6_stepJumps 0 = .ok (.iload_n 3, 1) := by decide +kernel
theorem d6_stepJumps_1 : decode b6_stepJumps 1 = .ok (.tableswitch 73 7 9 #[27, 37, 57], 27) := by decide +kernel
theorem d6_stepJumps_28 : decode b6_stepJumps 28 = .ok (.aload_n 0, 1) := by decide +kernel
theorem d6_stepJumps_29 : decode b6_stepJumps 29 = .ok (.aload_n 1, 1) := by decide +kernel
theorem d6_stepJumps_30 : decode b6_stepJumps 30 = .ok (.iload 4, 2) := by decide +kernel
theorem d6_stepJumps_32 : decode b6_stepJumps 32 = .ok (.invokevirtual 131, 3) := by decide +kernel
theorem d6_stepJumps_35 : decode b6_stepJumps 35 = .ok (.goto 44, 3) := by decide +kernel
theorem d6_stepJumps_38 : decode b6_stepJumps 38 = .ok (.aload_n 1, 1) := by decide +kernel
theorem d6_stepJumps_39 : decode b6_stepJumps 39 = .ok (.getfield 105, 3) := by decide +kernel
theorem d6_stepJumps_42 : decode b6_stepJumps 42 = .ok (.invokevirtual 135, 3) := by decide +kernel
theorem d6_stepJumps_45 : decode b6_stepJumps 45 = .ok (.ifCond .eq 34, 3) := by decide +kernel
theorem d6_stepJumps_48 : decode b6_stepJumps 48 = .ok (.aload_n 0, 1) := by decide +kernel
theorem d6_stepJumps_49 : decode b6_stepJumps 49 = .ok (.aload_n 1, 1) := by decide +kernel
theorem d6_stepJumps_50 : decode b6_stepJumps 50 = .ok (.iload 4, 2) := by decide +kernel
theorem d6_stepJumps_52 : decode b6_stepJumps 52 = .ok (.invokevirtual 131, 3) := by decide +kernel
theorem d6_stepJumps_55 : decode b6_stepJumps 55 = .ok (.goto 24, 3) := by decide +kernel
theorem d6_stepJumps_58 : decode b6_stepJumps 58 = .ok (.aload_n 0, 1) := by decide +kernel
theorem d6_stepJumps_59 : decode b6_stepJumps 59 = .ok (.aload_n 1, 1) := by decide +kernel
theorem d6_stepJumps_60 : decode b6_stepJumps 60 = .ok (.aload_n 0, 1) := by decide +kernel
theorem d6_stepJumps_61 : decode b6_stepJumps 61 = .ok (.aload_n 1, 1) := by decide +kernel
theorem d6_stepJumps_62 : decode b6_stepJumps 62 = .ok (.iload_n 2, 1) := by decide +kernel
theorem d6_stepJumps_63 : decode b6_stepJumps 63 = .ok (.iload 4, 2) := by decide +kernel
theorem d6_stepJumps_65 : decode b6_stepJumps 65 = .ok (.invokevirtual 138, 3) := by decide +kernel
theorem d6_stepJumps_68 : decode b6_stepJumps 68 = .ok (.invokevirtual 131, 3) := by decide +kernel
theorem d6_stepJumps_71 : decode b6_stepJumps 71 = .ok (.goto 8, 3) := by decide +kernel
theorem d6_stepJumps_74 : decode b6_stepJumps 74 = .ok (.aload_n 0, 1) := by decide +kernel
theorem d6_stepJumps_75 : decode b6_stepJumps 75 = .ok (.aload_n 1, 1) := by decide +kernel
theorem d6_stepJumps_76 : decode b6_stepJumps 76 = .ok (.invokevirtual 127, 3) := by decide +kernel
theorem d6_stepJumps_79 : decode b6_stepJumps 79 = .ok (.iconst 0, 1) := by decide +kernel
theorem d6_stepJumps_80 : decode b6_stepJumps 80 = .ok (.ireturn, 1) := by decide +kernel
theorem d6_jump_0 : decode b6_jump 0 = .ok (.aload_n 1, 1) := by decide +kernel
theorem d6_jump_1 : decode b6_jump 1 = .ok (.iload_n 2, 1) := by decide +kernel
theorem d6_jump_2 : decode b6_jump 2 = .ok (.invokevirtual 141, 3) := by decide +kernel
theorem d6_jump_5 : decode b6_jump 5 = .ok (.ifCond .ne 8, 3) := by decide +kernel
theorem d6_jump_8 : decode b6_jump 8 = .ok (.aload_n 0, 1) := by decide +kernel
theorem d6_jump_9 : decode b6_jump 9 = .ok (.aload_n 1, 1) := by decide +kernel
theorem d6_jump_10 : decode b6_jump 10 = .ok (.invokevirtual 127, 3) := by decide +kernel
theorem d6_jump_13 : decode b6_jump 13 = .ok (.return_, 1) := by decide +kernel
theorem d6_chosenJump_0 : decode b6_chosenJump 0 = .ok (.aload_n 1, 1) := by decide +kernel
theorem d6_chosenJump_1 : decode b6_chosenJump 1 = .ok (.getfield 105, 3) := by decide +kernel
theorem d6_chosenJump_4 : decode b6_chosenJump 4 = .ok (.invokevirtual 135, 3) := by decide +kernel
theorem d6_chosenJump_7 : decode b6_chosenJump 7 = .ok (.istore 4, 2) := by decide +kernel
theorem d6_chosenJump_9 : decode b6_chosenJump 9 = .ok (.iload 4, 2) := by decide +kernel
theorem d6_chosenJump_11 : decode b6_chosenJump 11 = .ok (.ifCond .lt 14, 3) := by decide +kernel
theorem d6_chosenJump_14 : decode b6_chosenJump 14 = .ok (.iload 4, 2) := by decide +kernel
theorem d6_chosenJump_16 : decode b6_chosenJump 16 = .ok (.iload_n 3, 1) := by decide +kernel
theorem d6_chosenJump_17 : decode b6_chosenJump 17 = .ok (.if_icmp .ge 8, 3) := by decide +kernel
theorem d6_chosenJump_20 : decode b6_chosenJump 20 = .ok (.iload 4, 2) := by decide +kernel
theorem d6_chosenJump_22 : decode b6_chosenJump 22 = .ok (.goto 4, 3) := by decide +kernel
theorem d6_chosenJump_25 : decode b6_chosenJump 25 = .ok (.iload_n 3, 1) := by decide +kernel
theorem d6_chosenJump_26 : decode b6_chosenJump 26 = .ok (.istore 5, 2) := by decide +kernel
theorem d6_chosenJump_28 : decode b6_chosenJump 28 = .ok (.aload_n 1, 1) := by decide +kernel
theorem d6_chosenJump_29 : decode b6_chosenJump 29 = .ok (.getfield 78, 3) := by decide +kernel
theorem d6_chosenJump_32 : decode b6_chosenJump 32 = .ok (.iload_n 2, 1) := by decide +kernel
theorem d6_chosenJump_33 : decode b6_chosenJump 33 = .ok (.iconst 2, 1) := by decide +kernel
theorem d6_chosenJump_34 : decode b6_chosenJump 34 = .ok (.iadd, 1) := by decide +kernel
theorem d6_chosenJump_35 : decode b6_chosenJump 35 = .ok (.iload 5, 2) := by decide +kernel
theorem d6_chosenJump_37 : decode b6_chosenJump 37 = .ok (.iadd, 1) := by decide +kernel
theorem d6_chosenJump_38 : decode b6_chosenJump 38 = .ok (.invokevirtual 82, 3) := by decide +kernel
theorem d6_chosenJump_41 : decode b6_chosenJump 41 = .ok (.ireturn, 1) := by decide +kernel
theorem d6_leave_0 : decode b6_leave 0 = .ok (.aload_n 1, 1) := by decide +kernel
theorem d6_leave_1 : decode b6_leave 1 = .ok (.getfield 78, 3) := by decide +kernel
theorem d6_leave_4 : decode b6_leave 4 = .ok (.invokevirtual 145, 3) := by decide +kernel
theorem d6_leave_7 : decode b6_leave 7 = .ok (.istore_n 2, 1) := by decide +kernel
theorem d6_leave_8 : decode b6_leave 8 = .ok (.aload_n 1, 1) := by decide +kernel
theorem d6_leave_9 : decode b6_leave 9 = .ok (.getfield 105, 3) := by decide +kernel
theorem d6_leave_12 : decode b6_leave 12 = .ok (.invokevirtual 147, 3) := by decide +kernel
theorem d6_leave_15 : decode b6_leave 15 = .ok (.iconst 1, 1) := by decide +kernel
theorem d6_leave_16 : decode b6_leave 16 = .ok (.isub, 1) := by decide +kernel
theorem d6_leave_17 : decode b6_leave 17 = .ok (.istore_n 3, 1) := by decide +kernel
theorem d6_leave_18 : decode b6_leave 18 = .ok (.aload_n 0, 1) := by decide +kernel
theorem d6_leave_19 : decode b6_leave 19 = .ok (.dup, 1) := by decide +kernel
theorem d6_leave_20 : decode b6_leave 20 = .ok (.getfield 47, 3) := by decide +kernel
theorem d6_leave_23 : decode b6_leave 23 = .ok (.iconst 1, 1) := by decide +kernel
theorem d6_leave_24 : decode b6_leave 24 = .ok (.isub, 1) := by decide +kernel
theorem d6_leave_25 : decode b6_leave 25 = .ok (.putfield 47, 3) := by decide +kernel
theorem d6_leave_28 : decode b6_leave 28 = .ok (.aload_n 0, 1) := by decide +kernel
theorem d6_leave_29 : decode b6_leave 29 = .ok (.getfield 47, 3) := by decide +kernel
theorem d6_leave_32 : decode b6_leave 32 = .ok (.iconst 1, 1) := by decide +kernel
theorem d6_leave_33 : decode b6_leave 33 = .ok (.if_icmp .lt 12, 3) := by decide +kernel
theorem d6_leave_36 : decode b6_leave 36 = .ok (.aload_n 0, 1) := by decide +kernel
theorem d6_leave_37 : decode b6_leave 37 = .ok (.getfield 47, 3) := by decide +kernel
theorem d6_leave_40 : decode b6_leave 40 = .ok (.bipush 6, 2) := by decide +kernel
theorem d6_leave_42 : decode b6_leave 42 = .ok (.if_icmp .le 29, 3) := by decide +kernel
theorem d6_leave_45 : decode b6_leave 45 = .ok (.aload_n 0, 1) := by decide +kernel
theorem d6_leave_46 : decode b6_leave 46 = .ok (.iconst 0, 1) := by decide +kernel
theorem d6_leave_47 : decode b6_leave 47 = .ok (.putfield 47, 3) := by decide +kernel
theorem d6_leave_50 : decode b6_leave 50 = .ok (.aload_n 0, 1) := by decide +kernel
theorem d6_leave_51 : decode b6_leave 51 = .ok (.iload_n 2, 1) := by decide +kernel
theorem d6_leave_52 : decode b6_leave 52 = .ok (.putfield 51, 3) := by decide +kernel
theorem d6_leave_55 : decode b6_leave 55 = .ok (.aload_n 0, 1) := by decide +kernel
theorem d6_leave_56 : decode b6_leave 56 = .ok (.getfield 33, 3) := by decide +kernel
theorem d6_leave_59 : decode b6_leave 59 = .ok (.iconst 0, 1) := by decide +kernel
theorem d6_leave_60 : decode b6_leave 60 = .ok (.aload_n 1, 1) := by decide +kernel
theorem d6_leave_61 : decode b6_leave 61 = .ok (.getfield 105, 3) := by decide +kernel
theorem d6_leave_64 : decode b6_leave 64 = .ok (.iload_n 3, 1) := by decide +kernel
theorem d6_leave_65 : decode b6_leave 65 = .ok (.invokevirtual 150, 3) := by decide +kernel
theorem d6_leave_68 : decode b6_leave 68 = .ok (.goto 29, 3) := by decide +kernel
theorem d6_leave_71 : decode b6_leave 71 = .ok (.iload_n 2, 1) := by decide +kernel
theorem d6_leave_72 : decode b6_leave 72 = .ok (.ifCond .eq 25, 3) := by decide +kernel
theorem d6_leave_75 : decode b6_leave 75 = .ok (.aload_n 0, 1) := by decide +kernel
theorem d6_leave_76 : decode b6_leave 76 = .ok (.getfield 11, 3) := by decide +kernel
theorem d6_leave_79 : decode b6_leave 79 = .ok (.aload_n 0, 1) := by decide +kernel
theorem d6_leave_80 : decode b6_leave 80 = .ok (.getfield 47, 3) := by decide +kernel
theorem d6_leave_83 : decode b6_leave 83 = .ok (.iconst 1, 1) := by decide +kernel
theorem d6_leave_84 : decode b6_leave 84 = .ok (.isub, 1) := by decide +kernel
theorem d6_leave_85 : decode b6_leave 85 = .ok (.aaload, 1) := by decide +kernel
theorem d6_leave_86 : decode b6_leave 86 = .ok (.getfield 105, 3) := by decide +kernel
theorem d6_leave_89 : decode b6_leave 89 = .ok (.aload_n 1, 1) := by decide +kernel
theorem d6_leave_90 : decode b6_leave 90 = .ok (.getfield 105, 3) := by decide +kernel
theorem d6_leave_93 : decode b6_leave 93 = .ok (.iload_n 3, 1) := by decide +kernel
theorem d6_leave_94 : decode b6_leave 94 = .ok (.invokevirtual 154, 3) := by decide +kernel
theorem d6_leave_97 : decode b6_leave 97 = .ok (.return_, 1) := by decide +kernel
theorem d6_stepCalls_0 : decode b6_stepCalls 0 = .ok (.iload_n 3, 1) := by decide +kernel
theorem d6_stepCalls_1 : decode b6_stepCalls 1 = .ok (.invokestatic 158, 3) := by decide +kernel
theorem d6_stepCalls_4 : decode b6_stepCalls 4 = .ok (.ifCond .ne 5, 3) := by decide +kernel
theorem d6_stepCalls_7 : decode b6_stepCalls 7 = .ok (.iconst 4, 1) := by decide +kernel
theorem d6_stepCalls_8 : decode b6_stepCalls 8 = .ok (.ireturn, 1) := by decide +kernel
theorem d6_stepCalls_9 : decode b6_stepCalls 9 = .ok (.iload_n 2, 1) := by decide +kernel
theorem d6_stepCalls_10 : decode b6_stepCalls 10 = .ok (.bipush 11, 2) := by decide +kernel
theorem d6_stepCalls_12 : decode b6_stepCalls 12 = .ok (.if_icmp .ne 15, 3) := by decide +kernel
theorem d6_stepCalls_15 : decode b6_stepCalls 15 = .ok (.aload_n 0, 1) := by decide +kernel
theorem d6_stepCalls_16 : decode b6_stepCalls 16 = .ok (.aload_n 1, 1) := by decide +kernel
theorem d6_stepCalls_17 : decode b6_stepCalls 17 = .ok (.aload_n 0, 1) := by decide +kernel
theorem d6_stepCalls_18 : decode b6_stepCalls 18 = .ok (.getfield 36, 3) := by decide +kernel
theorem d6_stepCalls_21 : decode b6_stepCalls 21 = .ok (.iload_n 3, 1) := by decide +kernel
theorem d6_stepCalls_22 : decode b6_stepCalls 22 = .ok (.aaload, 1) := by decide +kernel
theorem d6_stepCalls_23 : decode b6_stepCalls 23 = .ok (.invokevirtual 161, 3) := by decide +kernel
theorem d6_stepCalls_26 : decode b6_stepCalls 26 = .ok (.ireturn, 1) := by decide +kernel
theorem d6_stepCalls_27 : decode b6_stepCalls 27 = .ok (.aload_n 1, 1) := by decide +kernel
theorem d6_stepCalls_28 : decode b6_stepCalls 28 = .ok (.getfield 105, 3) := by decide +kernel
theorem d6_stepCalls_31 : decode b6_stepCalls 31 = .ok (.invokevirtual 135, 3) := by decide +kernel
theorem d6_stepCalls_34 : decode b6_stepCalls 34 = .ok (.istore 4, 2) := by decide +kernel
theorem d6_stepCalls_36 : decode b6_stepCalls 36 = .ok (.iload 4, 2) := by decide +kernel
theorem d6_stepCalls_38 : decode b6_stepCalls 38 = .ok (.ifCond .lt 23, 3) := by decide +kernel
theorem d6_stepCalls_41 : decode b6_stepCalls 41 = .ok (.iload 4, 2) := by decide +kernel
theorem d6_stepCalls_43 : decode b6_stepCalls 43 = .ok (.bipush 8, 2) := by decide +kernel
theorem d6_stepCalls_45 : decode b6_stepCalls 45 = .ok (.if_icmp .ge 16, 3) := by decide +kernel
theorem d6_stepCalls_48 : decode b6_stepCalls 48 = .ok (.aload_n 0, 1) := by decide +kernel
theorem d6_stepCalls_49 : decode b6_stepCalls 49 = .ok (.getfield 40, 3) := by decide +kernel
theorem d6_stepCalls_52 : decode b6_stepCalls 52 = .ok (.iload 4, 2) := by decide +kernel
theorem d6_stepCalls_54 : decode b6_stepCalls 54 = .ok (.iaload, 1) := by decide +kernel
theorem d6_stepCalls_55 : decode b6_stepCalls 55 = .ok (.invokestatic 158, 3) := by decide +kernel
theorem d6_stepCalls_58 : decode b6_stepCalls 58 = .ok (.ifCond .ne 5, 3) := by decide +kernel
theorem d6_stepCalls_61 : decode b6_stepCalls 61 = .ok (.iconst 4, 1) := by decide +kernel
theorem d6_stepCalls_62 : decode b6_stepCalls 62 = .ok (.ireturn, 1) := by decide +kernel
theorem d6_stepCalls_63 : decode b6_stepCalls 63 = .ok (.aload_n 0, 1) := by decide +kernel
theorem d6_stepCalls_64 : decode b6_stepCalls 64 = .ok (.getfield 36, 3) := by decide +kernel
theorem d6_stepCalls_67 : decode b6_stepCalls 67 = .ok (.aload_n 0, 1) := by decide +kernel
theorem d6_stepCalls_68 : decode b6_stepCalls 68 = .ok (.getfield 40, 3) := by decide +kernel
theorem d6_stepCalls_71 : decode b6_stepCalls 71 = .ok (.iload 4, 2) := by decide +kernel
theorem d6_stepCalls_73 : decode b6_stepCalls 73 = .ok (.iaload, 1) := by decide +kernel
theorem d6_stepCalls_74 : decode b6_stepCalls 74 = .ok (.aaload, 1) := by decide +kernel
theorem d6_stepCalls_75 : decode b6_stepCalls 75 = .ok (.astore 5, 2) := by decide +kernel
theorem d6_stepCalls_77 : decode b6_stepCalls 77 = .ok (.aload 5, 2) := by decide +kernel
theorem d6_stepCalls_79 : decode b6_stepCalls 79 = .ok (.invokevirtual 165, 3) := by decide +kernel
theorem d6_stepCalls_82 : decode b6_stepCalls 82 = .ok (.ifCond .eq 17, 3) := by decide +kernel
theorem d6_stepCalls_85 : decode b6_stepCalls 85 = .ok (.aload 5, 2) := by decide +kernel
theorem d6_stepCalls_87 : decode b6_stepCalls 87 = .ok (.aload_n 0, 1) := by decide +kernel
theorem d6_stepCalls_88 : decode b6_stepCalls 88 = .ok (.getfield 36, 3) := by decide +kernel
theorem d6_stepCalls_91 : decode b6_stepCalls 91 = .ok (.iload_n 3, 1) := by decide +kernel
theorem d6_stepCalls_92 : decode b6_stepCalls 92 = .ok (.aaload, 1) := by decide +kernel
theorem d6_stepCalls_93 : decode b6_stepCalls 93 = .ok (.invokevirtual 168, 3) := by decide +kernel
theorem d6_stepCalls_96 : decode b6_stepCalls 96 = .ok (.ifCond .ne 5, 3) := by decide +kernel
theorem d6_stepCalls_99 : decode b6_stepCalls 99 = .ok (.iconst 4, 1) := by decide +kernel
theorem d6_stepCalls_100 : decode b6_stepCalls 100 = .ok (.ireturn, 1) := by decide +kernel
theorem d6_stepCalls_101 : decode b6_stepCalls 101 = .ok (.aload_n 0, 1) := by decide +kernel
theorem d6_stepCalls_102 : decode b6_stepCalls 102 = .ok (.aload_n 1, 1) := by decide +kernel
theorem d6_stepCalls_103 : decode b6_stepCalls 103 = .ok (.aload 5, 2) := by decide +kernel
theorem d6_stepCalls_105 : decode b6_stepCalls 105 = .ok (.invokevirtual 161, 3) := by decide +kernel
theorem d6_stepCalls_108 : decode b6_stepCalls 108 = .ok (.ireturn, 1) := by decide +kernel
theorem d6_enter_0 : decode b6_enter 0 = .ok (.aload_n 0, 1) := by decide +kernel
theorem d6_enter_1 : decode b6_enter 1 = .ok (.getfield 47, 3) := by decide +kernel
theorem d6_enter_4 : decode b6_enter 4 = .ok (.ifCond .lt 12, 3) := by decide +kernel
theorem d6_enter_7 : decode b6_enter 7 = .ok (.aload_n 0, 1) := by decide +kernel
theorem d6_enter_8 : decode b6_enter 8 = .ok (.getfield 47, 3) := by decide +kernel
theorem d6_enter_11 : decode b6_enter 11 = .ok (.bipush 6, 2) := by decide +kernel
theorem d6_enter_13 : decode b6_enter 13 = .ok (.if_icmp .lt 5, 3) := by decide +kernel
theorem d6_enter_16 : decode b6_enter 16 = .ok (.iconst 1, 1) := by decide +kernel
theorem d6_enter_17 : decode b6_enter 17 = .ok (.ireturn, 1) := by decide +kernel
theorem d6_enter_18 : decode b6_enter 18 = .ok (.aload_n 0, 1) := by decide +kernel
theorem d6_enter_19 : decode b6_enter 19 = .ok (.getfield 11, 3) := by decide +kernel
theorem d6_enter_22 : decode b6_enter 22 = .ok (.aload_n 0, 1) := by decide +kernel
theorem d6_enter_23 : decode b6_enter 23 = .ok (.getfield 47, 3) := by decide +kernel
theorem d6_enter_26 : decode b6_enter 26 = .ok (.aaload, 1) := by decide +kernel
theorem d6_enter_27 : decode b6_enter 27 = .ok (.aload_n 2, 1) := by decide +kernel
theorem d6_enter_28 : decode b6_enter 28 = .ok (.invokevirtual 62, 3) := by decide +kernel
theorem d6_enter_31 : decode b6_enter 31 = .ok (.aload_n 0, 1) := by decide +kernel
theorem d6_enter_32 : decode b6_enter 32 = .ok (.getfield 11, 3) := by decide +kernel
theorem d6_enter_35 : decode b6_enter 35 = .ok (.aload_n 0, 1) := by decide +kernel
theorem d6_enter_36 : decode b6_enter 36 = .ok (.getfield 47, 3) := by decide +kernel
theorem d6_enter_39 : decode b6_enter 39 = .ok (.aaload, 1) := by decide +kernel
theorem d6_enter_40 : decode b6_enter 40 = .ok (.aload_n 1, 1) := by decide +kernel
theorem d6_enter_41 : decode b6_enter 41 = .ok (.getfield 105, 3) := by decide +kernel
theorem d6_enter_44 : decode b6_enter 44 = .ok (.invokevirtual 172, 3) := by decide +kernel
theorem d6_enter_47 : decode b6_enter 47 = .ok (.aload_n 0, 1) := by decide +kernel
theorem d6_enter_48 : decode b6_enter 48 = .ok (.dup, 1) := by decide +kernel
theorem d6_enter_49 : decode b6_enter 49 = .ok (.getfield 47, 3) := by decide +kernel
theorem d6_enter_52 : decode b6_enter 52 = .ok (.iconst 1, 1) := by decide +kernel
theorem d6_enter_53 : decode b6_enter 53 = .ok (.iadd, 1) := by decide +kernel
theorem d6_enter_54 : decode b6_enter 54 = .ok (.putfield 47, 3) := by decide +kernel
theorem d6_enter_57 : decode b6_enter 57 = .ok (.iconst 0, 1) := by decide +kernel
theorem d6_enter_58 : decode b6_enter 58 = .ok (.ireturn, 1) := by decide +kernel
theorem d6_stepValues_0 : decode b6_stepValues 0 = .ok (.aload_n 1, 1) := by decide +kernel
theorem d6_stepValues_1 : decode b6_stepValues 1 = .ok (.getfield 105, 3) := by decide +kernel
theorem d6_stepValues_4 : decode b6_stepValues 4 = .ok (.astore 4, 2) := by decide +kernel
theorem d6_stepValues_6 : decode b6_stepValues 6 = .ok (.aload 4, 2) := by decide +kernel
theorem d6_stepValues_8 : decode b6_stepValues 8 = .ok (.invokevirtual 147, 3) := by decide +kernel
theorem d6_stepValues_11 : decode b6_stepValues 11 = .ok (.iconst 1, 1) := by decide +kernel
theorem d6_stepValues_12 : decode b6_stepValues 12 = .ok (.isub, 1) := by decide +kernel
theorem d6_stepValues_13 : decode b6_stepValues 13 = .ok (.istore 5, 2) := by decide +kernel
theorem d6_stepValues_15 : decode b6_stepValues 15 = .ok (.iload_n 2, 1) := by decide +kernel
theorem d6_stepValues_16 : decode b6_stepValues 16 = .ok (.tableswitch 169 13 22 #[56, 64, 73, 86, 106, 121, 134, 169, 169, 154], 56) := by decide +kernel
theorem d6_stepValues_72 : decode b6_stepValues 72 = .ok (.aload 4, 2) := by decide +kernel
theorem d6_stepValues_74 : decode b6_stepValues 74 = .ok (.invokevirtual 176, 3) := by decide +kernel
theorem d6_stepValues_77 : decode b6_stepValues 77 = .ok (.goto 116, 3) := by decide +kernel
theorem d6_stepValues_80 : decode b6_stepValues 80 = .ok (.aload_n 0, 1) := by decide +kernel
theorem d6_stepValues_81 : decode b6_stepValues 81 = .ok (.aload 4, 2) := by decide +kernel
theorem d6_stepValues_83 : decode b6_stepValues 83 = .ok (.invokevirtual 179, 3) := by decide +kernel
theorem d6_stepValues_86 : decode b6_stepValues 86 = .ok (.goto 107, 3) := by decide +kernel
theorem d6_stepValues_89 : decode b6_stepValues 89 = .ok (.aload 4, 2) := by decide +kernel
theorem d6_stepValues_91 : decode b6_stepValues 91 = .ok (.aload_n 1, 1) := by decide +kernel
theorem d6_stepValues_92 : decode b6_stepValues 92 = .ok (.getfield 182, 3) := by decide +kernel
theorem d6_stepValues_95 : decode b6_stepValues 95 = .ok (.iload_n 3, 1) := by decide +kernel
theorem d6_stepValues_96 : decode b6_stepValues 96 = .ok (.invokevirtual 154, 3) := by decide +kernel
theorem d6_stepValues_99 : decode b6_stepValues 99 = .ok (.goto 94, 3) := by decide +kernel
theorem d6_stepValues_102 : decode b6_stepValues 102 = .ok (.aload_n 1, 1) := by decide +kernel
theorem d6_stepValues_103 : decode b6_stepValues 103 = .ok (.getfield 182, 3) := by decide +kernel
theorem d6_stepValues_106 : decode b6_stepValues 106 = .ok (.iload_n 3, 1) := by decide +kernel
theorem d6_stepValues_107 : decode b6_stepValues 107 = .ok (.aload 4, 2) := by decide +kernel
theorem d6_stepValues_109 : decode b6_stepValues 109 = .ok (.iload 5, 2) := by decide +kernel
theorem d6_stepValues_111 : decode b6_stepValues 111 = .ok (.invokevirtual 150, 3) := by decide +kernel
theorem d6_stepValues_114 : decode b6_stepValues 114 = .ok (.aload 4, 2) := by decide +kernel
theorem d6_stepValues_116 : decode b6_stepValues 116 = .ok (.invokevirtual 176, 3) := by decide +kernel
theorem d6_stepValues_119 : decode b6_stepValues 119 = .ok (.goto 74, 3) := by decide +kernel
theorem d6_stepValues_122 : decode b6_stepValues 122 = .ok (.aload_n 1, 1) := by decide +kernel
theorem d6_stepValues_123 : decode b6_stepValues 123 = .ok (.getfield 182, 3) := by decide +kernel
theorem d6_stepValues_126 : decode b6_stepValues 126 = .ok (.iload_n 3, 1) := by decide +kernel
theorem d6_stepValues_127 : decode b6_stepValues 127 = .ok (.aload 4, 2) := by decide +kernel
theorem d6_stepValues_129 : decode b6_stepValues 129 = .ok (.iload 5, 2) := by decide +kernel
theorem d6_stepValues_131 : decode b6_stepValues 131 = .ok (.invokevirtual 150, 3) := by decide +kernel
theorem d6_stepValues_134 : decode b6_stepValues 134 = .ok (.goto 59, 3) := by decide +kernel
theorem d6_stepValues_137 : decode b6_stepValues 137 = .ok (.aload 4, 2) := by decide +kernel
theorem d6_stepValues_139 : decode b6_stepValues 139 = .ok (.aload_n 0, 1) := by decide +kernel
theorem d6_stepValues_140 : decode b6_stepValues 140 = .ok (.getfield 29, 3) := by decide +kernel
theorem d6_stepValues_143 : decode b6_stepValues 143 = .ok (.iload_n 3, 1) := by decide +kernel
theorem d6_stepValues_144 : decode b6_stepValues 144 = .ok (.invokevirtual 154, 3) := by decide +kernel
theorem d6_stepValues_147 : decode b6_stepValues 147 = .ok (.goto 46, 3) := by decide +kernel
theorem d6_stepValues_150 : decode b6_stepValues 150 = .ok (.aload_n 0, 1) := by decide +kernel
theorem d6_stepValues_151 : decode b6_stepValues 151 = .ok (.getfield 29, 3) := by decide +kernel
theorem d6_stepValues_154 : decode b6_stepValues 154 = .ok (.iload_n 3, 1) := by decide +kernel
theorem d6_stepValues_155 : decode b6_stepValues 155 = .ok (.aload 4, 2) := by decide +kernel
theorem d6_stepValues_157 : decode b6_stepValues 157 = .ok (.iload 5, 2) := by decide +kernel
theorem d6_stepValues_159 : decode b6_stepValues 159 = .ok (.invokevirtual 150, 3) := by decide +kernel
theorem d6_stepValues_162 : decode b6_stepValues 162 = .ok (.aload 4, 2) := by decide +kernel
theorem d6_stepValues_164 : decode b6_stepValues 164 = .ok (.invokevirtual 176, 3) := by decide +kernel
theorem d6_stepValues_167 : decode b6_stepValues 167 = .ok (.goto 26, 3) := by decide +kernel
theorem d6_stepValues_170 : decode b6_stepValues 170 = .ok (.aload 4, 2) := by decide +kernel
theorem d6_stepValues_172 : decode b6_stepValues 172 = .ok (.iload_n 3, 1) := by decide +kernel
theorem d6_stepValues_173 : decode b6_stepValues 173 = .ok (.i2b, 1) := by decide +kernel
theorem d6_stepValues_174 : decode b6_stepValues 174 = .ok (.i2d, 1) := by decide +kernel
theorem d6_stepValues_175 : decode b6_stepValues 175 = .ok (.ldc2_w 185, 3) := by decide +kernel
theorem d6_stepValues_178 : decode b6_stepValues 178 = .ok (.dmul, 1) := by decide +kernel
theorem d6_stepValues_179 : decode b6_stepValues 179 = .ok (.invokevirtual 187, 3) := by decide +kernel
theorem d6_stepValues_182 : decode b6_stepValues 182 = .ok (.goto 11, 3) := by decide +kernel
theorem d6_stepValues_185 : decode b6_stepValues 185 = .ok (.aload 4, 2) := by decide +kernel
theorem d6_stepValues_187 : decode b6_stepValues 187 = .ok (.iload_n 3, 1) := by decide +kernel
theorem d6_stepValues_188 : decode b6_stepValues 188 = .ok (.i2b, 1) := by decide +kernel
theorem d6_stepValues_189 : decode b6_stepValues 189 = .ok (.i2l, 1) := by decide +kernel
theorem d6_stepValues_190 : decode b6_stepValues 190 = .ok (.invokevirtual 191, 3) := by decide +kernel
theorem d6_stepValues_193 : decode b6_stepValues 193 = .ok (.iconst 0, 1) := by decide +kernel
theorem d6_stepValues_194 : decode b6_stepValues 194 = .ok (.ireturn, 1) := by decide +kernel
theorem d6_select_0 : decode b6_select 0 = .ok (.aload_n 1, 1) := by decide +kernel
theorem d6_select_1 : decode b6_select 1 = .ok (.invokevirtual 135, 3) := by decide +kernel
theorem d6_select_4 : decode b6_select 4 = .ok (.ifCond .eq 7, 3) := by decide +kernel
theorem d6_select_7 : decode b6_select 7 = .ok (.iconst 1, 1) := by decide +kernel
theorem d6_select_8 : decode b6_select 8 = .ok (.goto 4, 3) := by decide +kernel
theorem d6_select_11 : decode b6_select 11 = .ok (.iconst 0, 1) := by decide +kernel
theorem d6_select_12 : decode b6_select 12 = .ok (.istore_n 2, 1) := by decide +kernel
theorem d6_select_13 : decode b6_select 13 = .ok (.aload_n 1, 1) := by decide +kernel
theorem d6_select_14 : decode b6_select 14 = .ok (.invokevirtual 147, 3) := by decide +kernel
theorem d6_select_17 : decode b6_select 17 = .ok (.iconst 1, 1) := by decide +kernel
theorem d6_select_18 : decode b6_select 18 = .ok (.isub, 1) := by decide +kernel
theorem d6_select_19 : decode b6_select 19 = .ok (.istore_n 3, 1) := by decide +kernel
theorem d6_select_20 : decode b6_select 20 = .ok (.iload_n 2, 1) := by decide +kernel
theorem d6_select_21 : decode b6_select 21 = .ok (.ifCond .ne 12, 3) := by decide +kernel
theorem d6_select_24 : decode b6_select 24 = .ok (.aload_n 1, 1) := by decide +kernel
theorem d6_select_25 : decode b6_select 25 = .ok (.iload_n 3, 1) := by decide +kernel
theorem d6_select_26 : decode b6_select 26 = .ok (.iconst 1, 1) := by decide +kernel
theorem d6_select_27 : decode b6_select 27 = .ok (.isub, 1) := by decide +kernel
theorem d6_select_28 : decode b6_select 28 = .ok (.aload_n 1, 1) := by decide +kernel
theorem d6_select_29 : decode b6_select 29 = .ok (.iload_n 3, 1) := by decide +kernel
theorem d6_select_30 : decode b6_select 30 = .ok (.invokevirtual 150, 3) := by decide +kernel
theorem d6_select_33 : decode b6_select 33 = .ok (.aload_n 1, 1) := by decide +kernel
theorem d6_select_34 : decode b6_select 34 = .ok (.invokevirtual 176, 3) := by decide +kernel
theorem d6_select_37 : decode b6_select 37 = .ok (.return_, 1) := by decide +kernel
theorem d6_stepNumbers_0 : decode b6_stepNumbers 0 = .ok (.iload_n 2, 1) := by decide +kernel
theorem d6_stepNumbers_1 : decode b6_stepNumbers 1 = .ok (.bipush 28, 2) := by decide +kernel
theorem d6_stepNumbers_3 : decode b6_stepNumbers 3 = .ok (.if_icmp .gt 11, 3) := by decide +kernel
theorem d6_stepNumbers_6 : decode b6_stepNumbers 6 = .ok (.aload_n 0, 1) := by decide +kernel
theorem d6_stepNumbers_7 : decode b6_stepNumbers 7 = .ok (.aload_n 1, 1) := by decide +kernel
theorem d6_stepNumbers_8 : decode b6_stepNumbers 8 = .ok (.iload_n 2, 1) := by decide +kernel
theorem d6_stepNumbers_9 : decode b6_stepNumbers 9 = .ok (.iload_n 3, 1) := by decide +kernel
theorem d6_stepNumbers_10 : decode b6_stepNumbers 10 = .ok (.invokevirtual 195, 3) := by decide +kernel
theorem d6_stepNumbers_13 : decode b6_stepNumbers 13 = .ok (.ireturn, 1) := by decide +kernel
theorem d6_stepNumbers_14 : decode b6_stepNumbers 14 = .ok (.iload_n 2, 1) := by decide +kernel
theorem d6_stepNumbers_15 : decode b6_stepNumbers 15 = .ok (.bipush 45, 2) := by decide +kernel
theorem d6_stepNumbers_17 : decode b6_stepNumbers 17 = .ok (.if_icmp .gt 9, 3) := by decide +kernel
theorem d6_stepNumbers_20 : decode b6_stepNumbers 20 = .ok (.aload_n 1, 1) := by decide +kernel
theorem d6_stepNumbers_21 : decode b6_stepNumbers 21 = .ok (.iload_n 2, 1) := by decide +kernel
theorem d6_stepNumbers_22 : decode b6_stepNumbers 22 = .ok (.invokestatic 198, 3) := by decide +kernel
theorem d6_stepNumbers_25 : decode b6_stepNumbers 25 = .ok (.ireturn, 1) := by decide +kernel
theorem d6_stepNumbers_26 : decode b6_stepNumbers 26 = .ok (.iload_n 2, 1) := by decide +kernel
theorem d6_stepNumbers_27 : decode b6_stepNumbers 27 = .ok (.bipush 64, 2) := by decide +kernel
theorem d6_stepNumbers_29 : decode b6_stepNumbers 29 = .ok (.if_icmp .gt 9, 3) := by decide +kernel
theorem d6_stepNumbers_32 : decode b6_stepNumbers 32 = .ok (.aload_n 1, 1) := by decide +kernel
theorem d6_stepNumbers_33 : decode b6_stepNumbers 33 = .ok (.iload_n 2, 1) := by decide +kernel
theorem d6_stepNumbers_34 : decode b6_stepNumbers 34 = .ok (.invokestatic 202, 3) := by decide +kernel
theorem d6_stepNumbers_37 : decode b6_stepNumbers 37 = .ok (.ireturn, 1) := by decide +kernel
theorem d6_stepNumbers_38 : decode b6_stepNumbers 38 = .ok (.iload_n 2, 1) := by decide +kernel
theorem d6_stepNumbers_39 : decode b6_stepNumbers 39 = .ok (.bipush 76, 2) := by decide +kernel
theorem d6_stepNumbers_41 : decode b6_stepNumbers 41 = .ok (.if_icmp .gt 9, 3) := by decide +kernel
theorem d6_stepNumbers_44 : decode b6_stepNumbers 44 = .ok (.aload_n 1, 1) := by decide +kernel
theorem d6_stepNumbers_45 : decode b6_stepNumbers 45 = .ok (.iload_n 2, 1) := by decide +kernel
theorem d6_stepNumbers_46 : decode b6_stepNumbers 46 = .ok (.invokestatic 205, 3) := by decide +kernel
theorem d6_stepNumbers_49 : decode b6_stepNumbers 49 = .ok (.ireturn, 1) := by decide +kernel
theorem d6_stepNumbers_50 : decode b6_stepNumbers 50 = .ok (.aload_n 1, 1) := by decide +kernel
theorem d6_stepNumbers_51 : decode b6_stepNumbers 51 = .ok (.iload_n 2, 1) := by decide +kernel
theorem d6_stepNumbers_52 : decode b6_stepNumbers 52 = .ok (.invokestatic 208, 3) := by decide +kernel
theorem d6_stepNumbers_55 : decode b6_stepNumbers 55 = .ok (.ireturn, 1) := by decide +kernel
theorem d6_stepMemory_0 : decode b6_stepMemory 0 = .ok (.iload_n 2, 1) := by decide +kernel
theorem d6_stepMemory_1 : decode b6_stepMemory 1 = .ok (.bipush 26, 2) := by decide +kernel
theorem d6_stepMemory_3 : decode b6_stepMemory 3 = .ok (.if_icmp .lt 7, 3) := by decide +kernel
theorem d6_stepMemory_6 : decode b6_stepMemory 6 = .ok (.iconst 1, 1) := by decide +kernel
theorem d6_stepMemory_7 : decode b6_stepMemory 7 = .ok (.goto 4, 3) := by decide +kernel
theorem d6_stepMemory_10 : decode b6_stepMemory 10 = .ok (.iconst 0, 1) := by decide +kernel
theorem d6_stepMemory_11 : decode b6_stepMemory 11 = .ok (.istore 4, 2) := by decide +kernel
theorem d6_stepMemory_13 : decode b6_stepMemory 13 = .ok (.iload 4, 2) := by decide +kernel
theorem d6_stepMemory_15 : decode b6_stepMemory 15 = .ok (.ifCond .eq 10, 3) := by decide +kernel
theorem d6_stepMemory_18 : decode b6_stepMemory 18 = .ok (.aload_n 1, 1) := by decide +kernel
theorem d6_stepMemory_19 : decode b6_stepMemory 19 = .ok (.invokevirtual 211, 3) := by decide +kernel
theorem d6_stepMemory_22 : decode b6_stepMemory 22 = .ok (.goto 4, 3) := by decide +kernel
theorem d6_stepMemory_25 : decode b6_stepMemory 25 = .ok (.lconst 0, 1) := by decide +kernel
theorem d6_stepMemory_26 : decode b6_stepMemory 26 = .ok (.lstore 5, 2) := by decide +kernel
theorem d6_stepMemory_28 : decode b6_stepMemory 28 = .ok (.aload_n 1, 1) := by decide +kernel
theorem d6_stepMemory_29 : decode b6_stepMemory 29 = .ok (.invokevirtual 135, 3) := by decide +kernel
theorem d6_stepMemory_32 : decode b6_stepMemory 32 = .ok (.i2l, 1) := by decide +kernel
theorem d6_stepMemory_33 : decode b6_stepMemory 33 = .ok (.iload_n 3, 1) := by decide +kernel
theorem d6_stepMemory_34 : decode b6_stepMemory 34 = .ok (.i2l, 1) := by decide +kernel
theorem d6_stepMemory_35 : decode b6_stepMemory 35 = .ok (.ladd, 1) := by decide +kernel
theorem d6_stepMemory_36 : decode b6_stepMemory 36 = .ok (.lstore 7, 2) := by decide +kernel
theorem d6_stepMemory_38 : decode b6_stepMemory 38 = .ok (.iload_n 2, 1) := by decide +kernel
theorem d6_stepMemory_39 : decode b6_stepMemory 39 = .ok (.invokestatic 215, 3) := by decide +kernel
theorem d6_stepMemory_42 : decode b6_stepMemory 42 = .ok (.istore 9, 2) := by decide +kernel
theorem d6_stepMemory_44 : decode b6_stepMemory 44 = .ok (.aload_n 0, 1) := by decide +kernel
theorem d6_stepMemory_45 : decode b6_stepMemory 45 = .ok (.getfield 20, 3) := by decide +kernel
theorem d6_stepMemory_48 : decode b6_stepMemory 48 = .ok (.lload 7, 2) := by decide +kernel
theorem d6_stepMemory_50 : decode b6_stepMemory 50 = .ok (.iload 9, 2) := by decide +kernel
theorem d6_stepMemory_52 : decode b6_stepMemory 52 = .ok (.invokevirtual 218, 3) := by decide +kernel
theorem d6_stepMemory_55 : decode b6_stepMemory 55 = .ok (.ifCond .ne 5, 3) := by decide +kernel
theorem d6_stepMemory_58 : decode b6_stepMemory 58 = .ok (.iconst 3, 1) := by decide +kernel
theorem d6_stepMemory_59 : decode b6_stepMemory 59 = .ok (.ireturn, 1) := by decide +kernel
theorem d6_stepMemory_60 : decode b6_stepMemory 60 = .ok (.iload 4, 2) := by decide +kernel
theorem d6_stepMemory_62 : decode b6_stepMemory 62 = .ok (.ifCond .eq 20, 3) := by decide +kernel
theorem d6_stepMemory_65 : decode b6_stepMemory 65 = .ok (.aload_n 0, 1) := by decide +kernel
theorem d6_stepMemory_66 : decode b6_stepMemory 66 = .ok (.getfield 20, 3) := by decide +kernel
theorem d6_stepMemory_69 : decode b6_stepMemory 69 = .ok (.lload 7, 2) := by decide +kernel
theorem d6_stepMemory_71 : decode b6_stepMemory 71 = .ok (.l2i, 1) := by decide +kernel
theorem d6_stepMemory_72 : decode b6_stepMemory 72 = .ok (.iload 9, 2) := by decide +kernel
theorem d6_stepMemory_74 : decode b6_stepMemory 74 = .ok (.lload 5, 2) := by decide +kernel
theorem d6_stepMemory_76 : decode b6_stepMemory 76 = .ok (.invokevirtual 222, 3) := by decide +kernel
theorem d6_stepMemory_79 : decode b6_stepMemory 79 = .ok (.goto 46, 3) := by decide +kernel
theorem d6_stepMemory_82 : decode b6_stepMemory 82 = .ok (.iload_n 2, 1) := by decide +kernel
theorem d6_stepMemory_83 : decode b6_stepMemory 83 = .ok (.bipush 23, 2) := by decide +kernel
theorem d6_stepMemory_85 : decode b6_stepMemory 85 = .ok (.if_icmp .ne 24, 3) := by decide +kernel
theorem d6_stepMemory_88 : decode b6_stepMemory 88 = .ok (.aload_n 1, 1) := by decide +kernel
theorem d6_stepMemory_89 : decode b6_stepMemory 89 = .ok (.aload_n 0, 1) := by decide +kernel
theorem d6_stepMemory_90 : decode b6_stepMemory 90 = .ok (.getfield 20, 3) := by decide +kernel
theorem d6_stepMemory_93 : decode b6_stepMemory 93 = .ok (.lload 7, 2) := by decide +kernel
theorem d6_stepMemory_95 : decode b6_stepMemory 95 = .ok (.l2i, 1) := by decide +kernel
theorem d6_stepMemory_96 : decode b6_stepMemory 96 = .ok (.iload 9, 2) := by decide +kernel
theorem d6_stepMemory_98 : decode b6_stepMemory 98 = .ok (.invokevirtual 226, 3) := by decide +kernel
theorem d6_stepMemory_101 : decode b6_stepMemory 101 = .ok (.l2i, 1) := by decide +kernel
theorem d6_stepMemory_102 : decode b6_stepMemory 102 = .ok (.i2l, 1) := by decide +kernel
theorem d6_stepMemory_103 : decode b6_stepMemory 103 = .ok (.invokevirtual 191, 3) := by decide +kernel
theorem d6_stepMemory_106 : decode b6_stepMemory 106 = .ok (.goto 19, 3) := by decide +kernel
theorem d6_stepMemory_109 : decode b6_stepMemory 109 = .ok (.aload_n 1, 1) := by decide +kernel
theorem d6_stepMemory_110 : decode b6_stepMemory 110 = .ok (.aload_n 0, 1) := by decide +kernel
theorem d6_stepMemory_111 : decode b6_stepMemory 111 = .ok (.getfield 20, 3) := by decide +kernel
theorem d6_stepMemory_114 : decode b6_stepMemory 114 = .ok (.lload 7, 2) := by decide +kernel
theorem d6_stepMemory_116 : decode b6_stepMemory 116 = .ok (.l2i, 1) := by decide +kernel
theorem d6_stepMemory_117 : decode b6_stepMemory 117 = .ok (.iload 9, 2) := by decide +kernel
theorem d6_stepMemory_119 : decode b6_stepMemory 119 = .ok (.invokevirtual 226, 3) := by decide +kernel
theorem d6_stepMemory_122 : decode b6_stepMemory 122 = .ok (.invokevirtual 191, 3) := by decide +kernel
theorem d6_stepMemory_125 : decode b6_stepMemory 125 = .ok (.iconst 0, 1) := by decide +kernel
theorem d6_stepMemory_126 : decode b6_stepMemory 126 = .ok (.ireturn, 1) := by decide +kernel
theorem d6_sizeInMemory_0 : decode b6_sizeInMemory 0 = .ok (.iload_n 0, 1) := by decide +kernel
theorem d6_sizeInMemory_1 : decode b6_sizeInMemory 1 = .ok (.tableswitch 40 24 28 #[35, 37, 40, 35, 37], 35) := by decide +kernel
theorem d6_sizeInMemory_36 : decode b6_sizeInMemory 36 = .ok (.iconst 1, 1) := by decide +kernel
theorem d6_sizeInMemory_37 : decode b6_sizeInMemory 37 = .ok (.ireturn, 1) := by decide +kernel
theorem d6_sizeInMemory_38 : decode b6_sizeInMemory 38 = .ok (.bipush 8, 2) := by decide +kernel
theorem d6_sizeInMemory_40 : decode b6_sizeInMemory 40 = .ok (.ireturn, 1) := by decide +kernel
theorem d6_sizeInMemory_41 : decode b6_sizeInMemory 41 = .ok (.iconst 4, 1) := by decide +kernel
theorem d6_sizeInMemory_42 : decode b6_sizeInMemory 42 = .ok (.ireturn, 1) := by decide +kernel
theorem d6_stepInts_0 : decode b6_stepInts 0 = .ok (.aload_n 0, 1) := by decide +kernel
theorem d6_stepInts_1 : decode b6_stepInts 1 = .ok (.invokevirtual 135, 3) := by decide +kernel
theorem d6_stepInts_4 : decode b6_stepInts 4 = .ok (.istore_n 2, 1) := by decide +kernel
theorem d6_stepInts_5 : decode b6_stepInts 5 = .ok (.iload_n 1, 1) := by decide +kernel
theorem d6_stepInts_6 : decode b6_stepInts 6 = .ok (.bipush 45, 2) := by decide +kernel
theorem d6_stepInts_8 : decode b6_stepInts 8 = .ok (.if_icmp .ne 18, 3) := by decide +kernel
theorem d6_stepInts_11 : decode b6_stepInts 11 = .ok (.aload_n 0, 1) := by decide +kernel
theorem d6_stepInts_12 : decode b6_stepInts 12 = .ok (.iload_n 2, 1) := by decide +kernel
theorem d6_stepInts_13 : decode b6_stepInts 13 = .ok (.ifCond .ne 7, 3) := by decide +kernel
theorem d6_stepInts_16 : decode b6_stepInts 16 = .ok (.iconst 1, 1) := by decide +kernel
theorem d6_stepInts_17 : decode b6_stepInts 17 = .ok (.goto 4, 3) := by decide +kernel
theorem d6_stepInts_20 : decode b6_stepInts 20 = .ok (.iconst 0, 1) := by decide +kernel
theorem d6_stepInts_21 : decode b6_stepInts 21 = .ok (.invokevirtual 230, 3) := by decide +kernel
theorem d6_stepInts_24 : decode b6_stepInts 24 = .ok (.iconst 0, 1) := by decide +kernel
theorem d6_stepInts_25 : decode b6_stepInts 25 = .ok (.ireturn, 1) := by decide +kernel
theorem d6_stepInts_26 : decode b6_stepInts 26 = .ok (.aload_n 0, 1) := by decide +kernel
theorem d6_stepInts_27 : decode b6_stepInts 27 = .ok (.invokevirtual 135, 3) := by decide +kernel
theorem d6_stepInts_30 : decode b6_stepInts 30 = .ok (.istore_n 3, 1) := by decide +kernel
theorem d6_stepInts_31 : decode b6_stepInts 31 = .ok (.iload_n 1, 1) := by decide +kernel
theorem d6_stepInts_32 : decode b6_stepInts 32 = .ok (.bipush 33, 2) := by decide +kernel
theorem d6_stepInts_34 : decode b6_stepInts 34 = .ok (.if_icmp .eq 9, 3) := by decide +kernel
theorem d6_stepInts_37 : decode b6_stepInts 37 = .ok (.iload_n 1, 1) := by decide +kernel
theorem d6_stepInts_38 : decode b6_stepInts 38 = .ok (.bipush 34, 2) := by decide +kernel
theorem d6_stepInts_40 : decode b6_stepInts 40 = .ok (.if_icmp .ne 33, 3) := by decide +kernel
theorem d6_stepInts_43 : decode b6_stepInts 43 = .ok (.iload_n 2, 1) := by decide +kernel
theorem d6_stepInts_44 : decode b6_stepInts 44 = .ok (.ifCond .ne 5, 3) := by decide +kernel
theorem d6_stepInts_47 : decode b6_stepInts 47 = .ok (.iconst 2, 1) := by decide +kernel
theorem d6_stepInts_48 : decode b6_stepInts 48 = .ok (.ireturn, 1) := by decide +kernel
theorem d6_stepInts_49 : decode b6_stepInts 49 = .ok (.aload_n 0, 1) := by decide +kernel
theorem d6_stepInts_50 : decode b6_stepInts 50 = .ok (.iload_n 1, 1) := by decide +kernel
theorem d6_stepInts_51 : decode b6_stepInts 51 = .ok (.bipush 33, 2) := by decide +kernel
theorem d6_stepInts_53 : decode b6_stepInts 53 = .ok (.if_icmp .ne 10, 3) := by decide +kernel
theorem d6_stepInts_56 : decode b6_stepInts 56 = .ok (.iload_n 3, 1) := by decide +kernel
theorem d6_stepInts_57 : decode b6_stepInts 57 = .ok (.iload_n 2, 1) := by decide +kernel
theorem d6_stepInts_58 : decode b6_stepInts 58 = .ok (.idiv, 1) := by decide +kernel
theorem d6_stepInts_59 : decode b6_stepInts 59 = .ok (.i2l, 1) := by decide +kernel
theorem d6_stepInts_60 : decode b6_stepInts 60 = .ok (.goto 7, 3) := by decide +kernel
theorem d6_stepInts_63 : decode b6_stepInts 63 = .ok (.iload_n 3, 1) := by decide +kernel
theorem d6_stepInts_64 : decode b6_stepInts 64 = .ok (.iload_n 2, 1) := by decide +kernel
theorem d6_stepInts_65 : decode b6_stepInts 65 = .ok (.irem, 1) := by decide +kernel
theorem d6_stepInts_66 : decode b6_stepInts 66 = .ok (.i2l, 1) := by decide +kernel
theorem d6_stepInts_67 : decode b6_stepInts 67 = .ok (.invokevirtual 191, 3) := by decide +kernel
theorem d6_stepInts_70 : decode b6_stepInts 70 = .ok (.goto 14, 3) := by decide +kernel
theorem d6_stepInts_73 : decode b6_stepInts 73 = .ok (.aload_n 0, 1) := by decide +kernel
theorem d6_stepInts_74 : decode b6_stepInts 74 = .ok (.iload_n 1, 1) := by decide +kernel
theorem d6_stepInts_75 : decode b6_stepInts 75 = .ok (.iload_n 3, 1) := by decide +kernel
theorem d6_stepInts_76 : decode b6_stepInts 76 = .ok (.iload_n 2, 1) := by decide +kernel
theorem d6_stepInts_77 : decode b6_stepInts 77 = .ok (.invokestatic 234, 3) := by decide +kernel
theorem d6_stepInts_80 : decode b6_stepInts 80 = .ok (.i2l, 1) := by decide +kernel
theorem d6_stepInts_81 : decode b6_stepInts 81 = .ok (.invokevirtual 191, 3) := by decide +kernel
theorem d6_stepInts_84 : decode b6_stepInts 84 = .ok (.iconst 0, 1) := by decide +kernel
theorem d6_stepInts_85 : decode b6_stepInts 85 = .ok (.ireturn, 1) := by decide +kernel
theorem d6_ofInts_0 : decode b6_ofInts 0 = .ok (.iload_n 0, 1) := by decide +kernel
theorem d6_ofInts_1 : decode b6_ofInts 1 = .ok (.tableswitch 140 30 43 #[71, 75, 79, 140, 140, 83, 87, 91, 95, 99, 103, 107, 118, 129], 71) := by decide +kernel
theorem d6_ofInts_72 : decode b6_ofInts 72 = .ok (.iload_n 1, 1) := by decide +kernel
theorem d6_ofInts_73 : decode b6_ofInts 73 = .ok (.iload_n 2, 1) := by decide +kernel
theorem d6_ofInts_74 : decode b6_ofInts 74 = .ok (.iadd, 1) := by decide +kernel
theorem d6_ofInts_75 : decode b6_ofInts 75 = .ok (.ireturn, 1) := by decide +kernel
theorem d6_ofInts_76 : decode b6_ofInts 76 = .ok (.iload_n 1, 1) := by decide +kernel
theorem d6_ofInts_77 : decode b6_ofInts 77 = .ok (.iload_n 2, 1) := by decide +kernel
theorem d6_ofInts_78 : decode b6_ofInts 78 = .ok (.isub, 1) := by decide +kernel
theorem d6_ofInts_79 : decode b6_ofInts 79 = .ok (.ireturn, 1) := by decide +kernel
theorem d6_ofInts_80 : decode b6_ofInts 80 = .ok (.iload_n 1, 1) := by decide +kernel
theorem d6_ofInts_81 : decode b6_ofInts 81 = .ok (.iload_n 2, 1) := by decide +kernel
theorem d6_ofInts_82 : decode b6_ofInts 82 = .ok (.imul, 1) := by decide +kernel
theorem d6_ofInts_83 : decode b6_ofInts 83 = .ok (.ireturn, 1) := by decide +kernel
theorem d6_ofInts_84 : decode b6_ofInts 84 = .ok (.iload_n 1, 1) := by decide +kernel
theorem d6_ofInts_85 : decode b6_ofInts 85 = .ok (.iload_n 2, 1) := by decide +kernel
theorem d6_ofInts_86 : decode b6_ofInts 86 = .ok (.iand, 1) := by decide +kernel
theorem d6_ofInts_87 : decode b6_ofInts 87 = .ok (.ireturn, 1) := by decide +kernel
theorem d6_ofInts_88 : decode b6_ofInts 88 = .ok (.iload_n 1, 1) := by decide +kernel
theorem d6_ofInts_89 : decode b6_ofInts 89 = .ok (.iload_n 2, 1) := by decide +kernel
theorem d6_ofInts_90 : decode b6_ofInts 90 = .ok (.ior, 1) := by decide +kernel
theorem d6_ofInts_91 : decode b6_ofInts 91 = .ok (.ireturn, 1) := by decide +kernel
theorem d6_ofInts_92 : decode b6_ofInts 92 = .ok (.iload_n 1, 1) := by decide +kernel
theorem d6_ofInts_93 : decode b6_ofInts 93 = .ok (.iload_n 2, 1) := by decide +kernel
theorem d6_ofInts_94 : decode b6_ofInts 94 = .ok (.ixor, 1) := by decide +kernel
theorem d6_ofInts_95 : decode b6_ofInts 95 = .ok (.ireturn, 1) := by decide +kernel
theorem d6_ofInts_96 : decode b6_ofInts 96 = .ok (.iload_n 1, 1) := by decide +kernel
theorem d6_ofInts_97 : decode b6_ofInts 97 = .ok (.iload_n 2, 1) := by decide +kernel
theorem d6_ofInts_98 : decode b6_ofInts 98 = .ok (.ishl, 1) := by decide +kernel
theorem d6_ofInts_99 : decode b6_ofInts 99 = .ok (.ireturn, 1) := by decide +kernel
theorem d6_ofInts_100 : decode b6_ofInts 100 = .ok (.iload_n 1, 1) := by decide +kernel
theorem d6_ofInts_101 : decode b6_ofInts 101 = .ok (.iload_n 2, 1) := by decide +kernel
theorem d6_ofInts_102 : decode b6_ofInts 102 = .ok (.ishr, 1) := by decide +kernel
theorem d6_ofInts_103 : decode b6_ofInts 103 = .ok (.ireturn, 1) := by decide +kernel
theorem d6_ofInts_104 : decode b6_ofInts 104 = .ok (.iload_n 1, 1) := by decide +kernel
theorem d6_ofInts_105 : decode b6_ofInts 105 = .ok (.iload_n 2, 1) := by decide +kernel
theorem d6_ofInts_106 : decode b6_ofInts 106 = .ok (.iushr, 1) := by decide +kernel
theorem d6_ofInts_107 : decode b6_ofInts 107 = .ok (.ireturn, 1) := by decide +kernel
theorem d6_ofInts_108 : decode b6_ofInts 108 = .ok (.iload_n 1, 1) := by decide +kernel
theorem d6_ofInts_109 : decode b6_ofInts 109 = .ok (.iload_n 2, 1) := by decide +kernel
theorem d6_ofInts_110 : decode b6_ofInts 110 = .ok (.if_icmp .ne 7, 3) := by decide +kernel
theorem d6_ofInts_113 : decode b6_ofInts 113 = .ok (.iconst 1, 1) := by decide +kernel
theorem d6_ofInts_114 : decode b6_ofInts 114 = .ok (.goto 4, 3) := by decide +kernel
theorem d6_ofInts_117 : decode b6_ofInts 117 = .ok (.iconst 0, 1) := by decide +kernel
theorem d6_ofInts_118 : decode b6_ofInts 118 = .ok (.ireturn, 1) := by decide +kernel
theorem d6_ofInts_119 : decode b6_ofInts 119 = .ok (.iload_n 1, 1) := by decide +kernel
theorem d6_ofInts_120 : decode b6_ofInts 120 = .ok (.iload_n 2, 1) := by decide +kernel
theorem d6_ofInts_121 : decode b6_ofInts 121 = .ok (.if_icmp .eq 7, 3) := by decide +kernel
theorem d6_ofInts_124 : decode b6_ofInts 124 = .ok (.iconst 1, 1) := by decide +kernel
theorem d6_ofInts_125 : decode b6_ofInts 125 = .ok (.goto 4, 3) := by decide +kernel
theorem d6_ofInts_128 : decode b6_ofInts 128 = .ok (.iconst 0, 1) := by decide +kernel
theorem d6_ofInts_129 : decode b6_ofInts 129 = .ok (.ireturn, 1) := by decide +kernel
theorem d6_ofInts_130 : decode b6_ofInts 130 = .ok (.iload_n 1, 1) := by decide +kernel
theorem d6_ofInts_131 : decode b6_ofInts 131 = .ok (.iload_n 2, 1) := by decide +kernel
theorem d6_ofInts_132 : decode b6_ofInts 132 = .ok (.if_icmp .ge 7, 3) := by decide +kernel
theorem d6_ofInts_135 : decode b6_ofInts 135 = .ok (.iconst 1, 1) := by decide +kernel
theorem d6_ofInts_136 : decode b6_ofInts 136 = .ok (.goto 4, 3) := by decide +kernel
theorem d6_ofInts_139 : decode b6_ofInts 139 = .ok (.iconst 0, 1) := by decide +kernel
theorem d6_ofInts_140 : decode b6_ofInts 140 = .ok (.ireturn, 1) := by decide +kernel
theorem d6_ofInts_141 : decode b6_ofInts 141 = .ok (.iload_n 1, 1) := by decide +kernel
theorem d6_ofInts_142 : decode b6_ofInts 142 = .ok (.i2l, 1) := by decide +kernel
theorem d6_ofInts_143 : decode b6_ofInts 143 = .ok (.ldc2_w 238, 3) := by decide +kernel
theorem d6_ofInts_146 : decode b6_ofInts 146 = .ok (.land, 1) := by decide +kernel
theorem d6_ofInts_147 : decode b6_ofInts 147 = .ok (.iload_n 2, 1) := by decide +kernel
theorem d6_ofInts_148 : decode b6_ofInts 148 = .ok (.i2l, 1) := by decide +kernel
theorem d6_ofInts_149 : decode b6_ofInts 149 = .ok (.ldc2_w 238, 3) := by decide +kernel
theorem d6_ofInts_152 : decode b6_ofInts 152 = .ok (.land, 1) := by decide +kernel
theorem d6_ofInts_153 : decode b6_ofInts 153 = .ok (.lcmp, 1) := by decide +kernel
theorem d6_ofInts_154 : decode b6_ofInts 154 = .ok (.ifCond .ge 7, 3) := by decide +kernel
theorem d6_ofInts_157 : decode b6_ofInts 157 = .ok (.iconst 1, 1) := by decide +kernel
theorem d6_ofInts_158 : decode b6_ofInts 158 = .ok (.goto 4, 3) := by decide +kernel
theorem d6_ofInts_161 : decode b6_ofInts 161 = .ok (.iconst 0, 1) := by decide +kernel
theorem d6_ofInts_162 : decode b6_ofInts 162 = .ok (.ireturn, 1) := by decide +kernel
theorem d6_stepLongs_0 : decode b6_stepLongs 0 = .ok (.aload_n 0, 1) := by decide +kernel
theorem d6_stepLongs_1 : decode b6_stepLongs 1 = .ok (.invokevirtual 211, 3) := by decide +kernel
theorem d6_stepLongs_4 : decode b6_stepLongs 4 = .ok (.lstore_n 2, 1) := by decide +kernel
theorem d6_stepLongs_5 : decode b6_stepLongs 5 = .ok (.iload_n 1, 1) := by decide +kernel
theorem d6_stepLongs_6 : decode b6_stepLongs 6 = .ok (.bipush 64, 2) := by decide +kernel
theorem d6_stepLongs_8 : decode b6_stepLongs 8 = .ok (.if_icmp .ne 20, 3) := by decide +kernel
theorem d6_stepLongs_11 : decode b6_stepLongs 11 = .ok (.aload_n 0, 1) := by decide +kernel
theorem d6_stepLongs_12 : decode b6_stepLongs 12 = .ok (.lload_n 2, 1) := by decide +kernel
theorem d6_stepLongs_13 : decode b6_stepLongs 13 = .ok (.lconst 0, 1) := by decide +kernel
theorem d6_stepLongs_14 : decode b6_stepLongs 14 = .ok (.lcmp, 1) := by decide +kernel
theorem d6_stepLongs_15 : decode b6_stepLongs 15 = .ok (.ifCond .ne 7, 3) := by decide +kernel
theorem d6_stepLongs_18 : decode b6_stepLongs 18 = .ok (.iconst 1, 1) := by decide +kernel
theorem d6_stepLongs_19 : decode b6_stepLongs 19 = .ok (.goto 4, 3) := by decide +kernel
theorem d6_stepLongs_22 : decode b6_stepLongs 22 = .ok (.iconst 0, 1) := by decide +kernel
theorem d6_stepLongs_23 : decode b6_stepLongs 23 = .ok (.invokevirtual 230, 3) := by decide +kernel
theorem d6_stepLongs_26 : decode b6_stepLongs 26 = .ok (.iconst 0, 1) := by decide +kernel
theorem d6_stepLongs_27 : decode b6_stepLongs 27 = .ok (.ireturn, 1) := by decide +kernel
theorem d6_stepLongs_28 : decode b6_stepLongs 28 = .ok (.aload_n 0, 1) := by decide +kernel
theorem d6_stepLongs_29 : decode b6_stepLongs 29 = .ok (.invokevirtual 211, 3) := by decide +kernel
theorem d6_stepLongs_32 : decode b6_stepLongs 32 = .ok (.lstore 4, 2) := by decide +kernel
theorem d6_stepLongs_34 : decode b6_stepLongs 34 = .ok (.iload_n 1, 1) := by decide +kernel
theorem d6_stepLongs_35 : decode b6_stepLongs 35 = .ok (.bipush 53, 2) := by decide +kernel
theorem d6_stepLongs_37 : decode b6_stepLongs 37 = .ok (.if_icmp .eq 9, 3) := by decide +kernel
theorem d6_stepLongs_40 : decode b6_stepLongs 40 = .ok (.iload_n 1, 1) := by decide +kernel
theorem d6_stepLongs_41 : decode b6_stepLongs 41 = .ok (.bipush 54, 2) := by decide +kernel
theorem d6_stepLongs_43 : decode b6_stepLongs 43 = .ok (.if_icmp .ne 35, 3) := by decide +kernel
theorem d6_stepLongs_46 : decode b6_stepLongs 46 = .ok (.lload_n 2, 1) := by decide +kernel
theorem d6_stepLongs_47 : decode b6_stepLongs 47 = .ok (.lconst 0, 1) := by decide +kernel
theorem d6_stepLongs_48 : decode b6_stepLongs 48 = .ok (.lcmp, 1) := by decide +kernel
theorem d6_stepLongs_49 : decode b6_stepLongs 49 = .ok (.ifCond .ne 5, 3) := by decide +kernel
theorem d6_stepLongs_52 : decode b6_stepLongs 52 = .ok (.iconst 2, 1) := by decide +kernel
theorem d6_stepLongs_53 : decode b6_stepLongs 53 = .ok (.ireturn, 1) := by decide +kernel
theorem d6_stepLongs_54 : decode b6_stepLongs 54 = .ok (.aload_n 0, 1) := by decide +kernel
theorem d6_stepLongs_55 : decode b6_stepLongs 55 = .ok (.iload_n 1, 1) := by decide +kernel
theorem d6_stepLongs_56 : decode b6_stepLongs 56 = .ok (.bipush 53, 2) := by decide +kernel
theorem d6_stepLongs_58 : decode b6_stepLongs 58 = .ok (.if_icmp .ne 10, 3) := by decide +kernel
theorem d6_stepLongs_61 : decode b6_stepLongs 61 = .ok (.lload 4, 2) := by decide +kernel
theorem d6_stepLongs_63 : decode b6_stepLongs 63 = .ok (.lload_n 2, 1) := by decide +kernel
theorem d6_stepLongs_64 : decode b6_stepLongs 64 = .ok (.ldiv, 1) := by decide +kernel
theorem d6_stepLongs_65 : decode b6_stepLongs 65 = .ok (.goto 7, 3) := by decide +kernel
theorem d6_stepLongs_68 : decode b6_stepLongs 68 = .ok (.lload 4, 2) := by decide +kernel
theorem d6_stepLongs_70 : decode b6_stepLongs 70 = .ok (.lload_n 2, 1) := by decide +kernel
theorem d6_stepLongs_71 : decode b6_stepLongs 71 = .ok (.lrem, 1) := by decide +kernel
theorem d6_stepLongs_72 : decode b6_stepLongs 72 = .ok (.invokevirtual 191, 3) := by decide +kernel
theorem d6_stepLongs_75 : decode b6_stepLongs 75 = .ok (.goto 14, 3) := by decide +kernel
theorem d6_stepLongs_78 : decode b6_stepLongs 78 = .ok (.aload_n 0, 1) := by decide +kernel
theorem d6_stepLongs_79 : decode b6_stepLongs 79 = .ok (.iload_n 1, 1) := by decide +kernel
theorem d6_stepLongs_80 : decode b6_stepLongs 80 = .ok (.lload 4, 2) := by decide +kernel
theorem d6_stepLongs_82 : decode b6_stepLongs 82 = .ok (.lload_n 2, 1) := by decide +kernel
theorem d6_stepLongs_83 : decode b6_stepLongs 83 = .ok (.invokestatic 240, 3) := by decide +kernel
theorem d6_stepLongs_86 : decode b6_stepLongs 86 = .ok (.invokevirtual 191, 3) := by decide +kernel
theorem d6_stepLongs_89 : decode b6_stepLongs 89 = .ok (.iconst 0, 1) := by decide +kernel
theorem d6_stepLongs_90 : decode b6_stepLongs 90 = .ok (.ireturn, 1) := by decide +kernel
theorem d6_ofLongs_0 : decode b6_ofLongs 0 = .ok (.iload_n 0, 1) := by decide +kernel
theorem d6_ofLongs_1 : decode b6_ofLongs 1 = .ok (.tableswitch 130 50 62 #[67, 71, 75, 130, 130, 79, 83, 87, 91, 96, 101, 106, 118], 67) := by decide +kernel
theorem d6_ofLongs_68 : decode b6_ofLongs 68 = .ok (.lload_n 1, 1) := by decide +kernel
theorem d6_ofLongs_69 : decode b6_ofLongs 69 = .ok (.lload_n 3, 1) := by decide +kernel
theorem d6_ofLongs_70 : decode b6_ofLongs 70 = .ok (.ladd, 1) := by decide +kernel
theorem d6_ofLongs_71 : decode b6_ofLongs 71 = .ok (.lreturn, 1) := by decide +kernel
theorem d6_ofLongs_72 : decode b6_ofLongs 72 = .ok (.lload_n 1, 1) := by decide +kernel
theorem d6_ofLongs_73 : decode b6_ofLongs 73 = .ok (.lload_n 3, 1) := by decide +kernel
theorem d6_ofLongs_74 : decode b6_ofLongs 74 = .ok (.lsub, 1) := by decide +kernel
theorem d6_ofLongs_75 : decode b6_ofLongs 75 = .ok (.lreturn, 1) := by decide +kernel
theorem d6_ofLongs_76 : decode b6_ofLongs 76 = .ok (.lload_n 1, 1) := by decide +kernel
theorem d6_ofLongs_77 : decode b6_ofLongs 77 = .ok (.lload_n 3, 1) := by decide +kernel
theorem d6_ofLongs_78 : decode b6_ofLongs 78 = .ok (.lmul, 1) := by decide +kernel
theorem d6_ofLongs_79 : decode b6_ofLongs 79 = .ok (.lreturn, 1) := by decide +kernel
theorem d6_ofLongs_80 : decode b6_ofLongs 80 = .ok (.lload_n 1, 1) := by decide +kernel
theorem d6_ofLongs_81 : decode b6_ofLongs 81 = .ok (.lload_n 3, 1) := by decide +kernel
theorem d6_ofLongs_82 : decode b6_ofLongs 82 = .ok (.land, 1) := by decide +kernel
theorem d6_ofLongs_83 : decode b6_ofLongs 83 = .ok (.lreturn, 1) := by decide +kernel
theorem d6_ofLongs_84 : decode b6_ofLongs 84 = .ok (.lload_n 1, 1) := by decide +kernel
theorem d6_ofLongs_85 : decode b6_ofLongs 85 = .ok (.lload_n 3, 1) := by decide +kernel
theorem d6_ofLongs_86 : decode b6_ofLongs 86 = .ok (.lor, 1) := by decide +kernel
theorem d6_ofLongs_87 : decode b6_ofLongs 87 = .ok (.lreturn, 1) := by decide +kernel
theorem d6_ofLongs_88 : decode b6_ofLongs 88 = .ok (.lload_n 1, 1) := by decide +kernel
theorem d6_ofLongs_89 : decode b6_ofLongs 89 = .ok (.lload_n 3, 1) := by decide +kernel
theorem d6_ofLongs_90 : decode b6_ofLongs 90 = .ok (.lxor, 1) := by decide +kernel
theorem d6_ofLongs_91 : decode b6_ofLongs 91 = .ok (.lreturn, 1) := by decide +kernel
theorem d6_ofLongs_92 : decode b6_ofLongs 92 = .ok (.lload_n 1, 1) := by decide +kernel
theorem d6_ofLongs_93 : decode b6_ofLongs 93 = .ok (.lload_n 3, 1) := by decide +kernel
theorem d6_ofLongs_94 : decode b6_ofLongs 94 = .ok (.l2i, 1) := by decide +kernel
theorem d6_ofLongs_95 : decode b6_ofLongs 95 = .ok (.lshl, 1) := by decide +kernel
theorem d6_ofLongs_96 : decode b6_ofLongs 96 = .ok (.lreturn, 1) := by decide +kernel
theorem d6_ofLongs_97 : decode b6_ofLongs 97 = .ok (.lload_n 1, 1) := by decide +kernel
theorem d6_ofLongs_98 : decode b6_ofLongs 98 = .ok (.lload_n 3, 1) := by decide +kernel
theorem d6_ofLongs_99 : decode b6_ofLongs 99 = .ok (.l2i, 1) := by decide +kernel
theorem d6_ofLongs_100 : decode b6_ofLongs 100 = .ok (.lshr, 1) := by decide +kernel
theorem d6_ofLongs_101 : decode b6_ofLongs 101 = .ok (.lreturn, 1) := by decide +kernel
theorem d6_ofLongs_102 : decode b6_ofLongs 102 = .ok (.lload_n 1, 1) := by decide +kernel
theorem d6_ofLongs_103 : decode b6_ofLongs 103 = .ok (.lload_n 3, 1) := by decide +kernel
theorem d6_ofLongs_104 : decode b6_ofLongs 104 = .ok (.l2i, 1) := by decide +kernel
theorem d6_ofLongs_105 : decode b6_ofLongs 105 = .ok (.lushr, 1) := by decide +kernel
theorem d6_ofLongs_106 : decode b6_ofLongs 106 = .ok (.lreturn, 1) := by decide +kernel
theorem d6_ofLongs_107 : decode b6_ofLongs 107 = .ok (.lload_n 1, 1) := by decide +kernel
theorem d6_ofLongs_108 : decode b6_ofLongs 108 = .ok (.lload_n 3, 1) := by decide +kernel
theorem d6_ofLongs_109 : decode b6_ofLongs 109 = .ok (.lcmp, 1) := by decide +kernel
theorem d6_ofLongs_110 : decode b6_ofLongs 110 = .ok (.ifCond .ne 7, 3) := by decide +kernel
theorem d6_ofLongs_113 : decode b6_ofLongs 113 = .ok (.lconst 1, 1) := by decide +kernel
theorem d6_ofLongs_114 : decode b6_ofLongs 114 = .ok (.goto 4, 3) := by decide +kernel
theorem d6_ofLongs_117 : decode b6_ofLongs 117 = .ok (.lconst 0, 1) := by decide +kernel
theorem d6_ofLongs_118 : decode b6_ofLongs 118 = .ok (.lreturn, 1) := by decide +kernel
theorem d6_ofLongs_119 : decode b6_ofLongs 119 = .ok (.lload_n 1, 1) := by decide +kernel
theorem d6_ofLongs_120 : decode b6_ofLongs 120 = .ok (.lload_n 3, 1) := by decide +kernel
theorem d6_ofLongs_121 : decode b6_ofLongs 121 = .ok (.lcmp, 1) := by decide +kernel
theorem d6_ofLongs_122 : decode b6_ofLongs 122 = .ok (.ifCond .eq 7, 3) := by decide +kernel
theorem d6_ofLongs_125 : decode b6_ofLongs 125 = .ok (.lconst 1, 1) := by decide +kernel
theorem d6_ofLongs_126 : decode b6_ofLongs 126 = .ok (.goto 4, 3) := by decide +kernel
theorem d6_ofLongs_129 : decode b6_ofLongs 129 = .ok (.lconst 0, 1) := by decide +kernel
theorem d6_ofLongs_130 : decode b6_ofLongs 130 = .ok (.lreturn, 1) := by decide +kernel
theorem d6_ofLongs_131 : decode b6_ofLongs 131 = .ok (.lload_n 1, 1) := by decide +kernel
theorem d6_ofLongs_132 : decode b6_ofLongs 132 = .ok (.lload_n 3, 1) := by decide +kernel
theorem d6_ofLongs_133 : decode b6_ofLongs 133 = .ok (.lcmp, 1) := by decide +kernel
theorem d6_ofLongs_134 : decode b6_ofLongs 134 = .ok (.ifCond .ge 7, 3) := by decide +kernel
theorem d6_ofLongs_137 : decode b6_ofLongs 137 = .ok (.lconst 1, 1) := by decide +kernel
theorem d6_ofLongs_138 : decode b6_ofLongs 138 = .ok (.goto 4, 3) := by decide +kernel
theorem d6_ofLongs_141 : decode b6_ofLongs 141 = .ok (.lconst 0, 1) := by decide +kernel
theorem d6_ofLongs_142 : decode b6_ofLongs 142 = .ok (.lreturn, 1) := by decide +kernel
theorem d6_stepReals_0 : decode b6_stepReals 0 = .ok (.aload_n 0, 1) := by decide +kernel
theorem d6_stepReals_1 : decode b6_stepReals 1 = .ok (.invokevirtual 244, 3) := by decide +kernel
theorem d6_stepReals_4 : decode b6_stepReals 4 = .ok (.dstore_n 2, 1) := by decide +kernel
theorem d6_stepReals_5 : decode b6_stepReals 5 = .ok (.iload_n 1, 1) := by decide +kernel
theorem d6_stepReals_6 : decode b6_stepReals 6 = .ok (.bipush 76, 2) := by decide +kernel
theorem d6_stepReals_8 : decode b6_stepReals 8 = .ok (.if_icmp .ne 12, 3) := by decide +kernel
theorem d6_stepReals_11 : decode b6_stepReals 11 = .ok (.aload_n 0, 1) := by decide +kernel
theorem d6_stepReals_12 : decode b6_stepReals 12 = .ok (.dconst 0, 1) := by decide +kernel
theorem d6_stepReals_13 : decode b6_stepReals 13 = .ok (.dload_n 2, 1) := by decide +kernel
theorem d6_stepReals_14 : decode b6_stepReals 14 = .ok (.dsub, 1) := by decide +kernel
theorem d6_stepReals_15 : decode b6_stepReals 15 = .ok (.invokevirtual 187, 3) := by decide +kernel
theorem d6_stepReals_18 : decode b6_stepReals 18 = .ok (.iconst 0, 1) := by decide +kernel
theorem d6_stepReals_19 : decode b6_stepReals 19 = .ok (.ireturn, 1) := by decide +kernel
theorem d6_stepReals_20 : decode b6_stepReals 20 = .ok (.aload_n 0, 1) := by decide +kernel
theorem d6_stepReals_21 : decode b6_stepReals 21 = .ok (.invokevirtual 244, 3) := by decide +kernel
theorem d6_stepReals_24 : decode b6_stepReals 24 = .ok (.dstore 4, 2) := by decide +kernel
theorem d6_stepReals_26 : decode b6_stepReals 26 = .ok (.iload_n 1, 1) := by decide +kernel
theorem d6_stepReals_27 : decode b6_stepReals 27 = .ok (.bipush 73, 2) := by decide +kernel
theorem d6_stepReals_29 : decode b6_stepReals 29 = .ok (.if_icmp .ne 11, 3) := by decide +kernel
theorem d6_stepReals_32 : decode b6_stepReals 32 = .ok (.dload_n 2, 1) := by decide +kernel
theorem d6_stepReals_33 : decode b6_stepReals 33 = .ok (.dconst 0, 1) := by decide +kernel
theorem d6_stepReals_34 : decode b6_stepReals 34 = .ok (.dcmp .l, 1) := by decide +kernel
theorem d6_stepReals_35 : decode b6_stepReals 35 = .ok (.ifCond .ne 5, 3) := by decide +kernel
theorem d6_stepReals_38 : decode b6_stepReals 38 = .ok (.iconst 2, 1) := by decide +kernel
theorem d6_stepReals_39 : decode b6_stepReals 39 = .ok (.ireturn, 1) := by decide +kernel
theorem d6_stepReals_40 : decode b6_stepReals 40 = .ok (.iload_n 1, 1) := by decide +kernel
theorem d6_stepReals_41 : decode b6_stepReals 41 = .ok (.bipush 74, 2) := by decide +kernel
theorem d6_stepReals_43 : decode b6_stepReals 43 = .ok (.if_icmp .eq 9, 3) := by decide +kernel
theorem d6_stepReals_46 : decode b6_stepReals 46 = .ok (.iload_n 1, 1) := by decide +kernel
theorem d6_stepReals_47 : decode b6_stepReals 47 = .ok (.bipush 75, 2) := by decide +kernel
theorem d6_stepReals_49 : decode b6_stepReals 49 = .ok (.if_icmp .ne 42, 3) := by decide +kernel
theorem d6_stepReals_52 : decode b6_stepReals 52 = .ok (.aload_n 0, 1) := by decide +kernel
theorem d6_stepReals_53 : decode b6_stepReals 53 = .ok (.iload_n 1, 1) := by decide +kernel
theorem d6_stepReals_54 : decode b6_stepReals 54 = .ok (.bipush 74, 2) := by decide +kernel
theorem d6_stepReals_56 : decode b6_stepReals 56 = .ok (.if_icmp .ne 18, 3) := by decide +kernel
theorem d6_stepReals_59 : decode b6_stepReals 59 = .ok (.dload 4, 2) := by decide +kernel
theorem d6_stepReals_61 : decode b6_stepReals 61 = .ok (.dload_n 2, 1) := by decide +kernel
theorem d6_stepReals_62 : decode b6_stepReals 62 = .ok (.dcmp .l, 1) := by decide +kernel
theorem d6_stepReals_63 : decode b6_stepReals 63 = .ok (.ifCond .ne 7, 3) := by decide +kernel
theorem d6_stepReals_66 : decode b6_stepReals 66 = .ok (.iconst 1, 1) := by decide +kernel
theorem d6_stepReals_67 : decode b6_stepReals 67 = .ok (.goto 19, 3) := by decide +kernel
theorem d6_stepReals_70 : decode b6_stepReals 70 = .ok (.iconst 0, 1) := by decide +kernel
theorem d6_stepReals_71 : decode b6_stepReals 71 = .ok (.goto 15, 3) := by decide +kernel
theorem d6_stepReals_74 : decode b6_stepReals 74 = .ok (.dload 4, 2) := by decide +kernel
theorem d6_stepReals_76 : decode b6_stepReals 76 = .ok (.dload_n 2, 1) := by decide +kernel
theorem d6_stepReals_77 : decode b6_stepReals 77 = .ok (.dcmp .g, 1) := by decide +kernel
theorem d6_stepReals_78 : decode b6_stepReals 78 = .ok (.ifCond .ge 7, 3) := by decide +kernel
theorem d6_stepReals_81 : decode b6_stepReals 81 = .ok (.iconst 1, 1) := by decide +kernel
theorem d6_stepReals_82 : decode b6_stepReals 82 = .ok (.goto 4, 3) := by decide +kernel
theorem d6_stepReals_85 : decode b6_stepReals 85 = .ok (.iconst 0, 1) := by decide +kernel
theorem d6_stepReals_86 : decode b6_stepReals 86 = .ok (.invokevirtual 230, 3) := by decide +kernel
theorem d6_stepReals_89 : decode b6_stepReals 89 = .ok (.iconst 0, 1) := by decide +kernel
theorem d6_stepReals_90 : decode b6_stepReals 90 = .ok (.ireturn, 1) := by decide +kernel
theorem d6_stepReals_91 : decode b6_stepReals 91 = .ok (.iload_n 1, 1) := by decide +kernel
theorem d6_stepReals_92 : decode b6_stepReals 92 = .ok (.dload 4, 2) := by decide +kernel
theorem d6_stepReals_94 : decode b6_stepReals 94 = .ok (.dload_n 2, 1) := by decide +kernel
theorem d6_stepReals_95 : decode b6_stepReals 95 = .ok (.invokestatic 248, 3) := by decide +kernel
theorem d6_stepReals_98 : decode b6_stepReals 98 = .ok (.dstore 6, 2) := by decide +kernel
theorem d6_stepReals_100 : decode b6_stepReals 100 = .ok (.dload 6, 2) := by decide +kernel
theorem d6_stepReals_102 : decode b6_stepReals 102 = .ok (.ldc2_w 252, 3) := by decide +kernel
theorem d6_stepReals_105 : decode b6_stepReals 105 = .ok (.dcmp .l, 1) := by decide +kernel
theorem d6_stepReals_106 : decode b6_stepReals 106 = .ok (.ifCond .gt 12, 3) := by decide +kernel
theorem d6_stepReals_109 : decode b6_stepReals 109 = .ok (.dload 6, 2) := by decide +kernel
theorem d6_stepReals_111 : decode b6_stepReals 111 = .ok (.ldc2_w 254, 3) := by decide +kernel
theorem d6_stepReals_114 : decode b6_stepReals 114 = .ok (.dcmp .g, 1) := by decide +kernel
theorem d6_stepReals_115 : decode b6_stepReals 115 = .ok (.ifCond .ge 5, 3) := by decide +kernel
theorem d6_stepReals_118 : decode b6_stepReals 118 = .ok (.iconst 5, 1) := by decide +kernel
theorem d6_stepReals_119 : decode b6_stepReals 119 = .ok (.ireturn, 1) := by decide +kernel
theorem d6_stepReals_120 : decode b6_stepReals 120 = .ok (.aload_n 0, 1) := by decide +kernel
theorem d6_stepReals_121 : decode b6_stepReals 121 = .ok (.dload 6, 2) := by decide +kernel
theorem d6_stepReals_123 : decode b6_stepReals 123 = .ok (.invokevirtual 187, 3) := by decide +kernel
theorem d6_stepReals_126 : decode b6_stepReals 126 = .ok (.iconst 0, 1) := by decide +kernel
theorem d6_stepReals_127 : decode b6_stepReals 127 = .ok (.ireturn, 1) := by decide +kernel
theorem d6_ofReals_0 : decode b6_ofReals 0 = .ok (.iload_n 0, 1) := by decide +kernel
theorem d6_ofReals_1 : decode b6_ofReals 1 = .ok (.tableswitch 39 70 72 #[27, 31, 35], 27) := by decide +kernel
theorem d6_ofReals_28 : decode b6_ofReals 28 = .ok (.dload_n 1, 1) := by decide +kernel
theorem d6_ofReals_29 : decode b6_ofReals 29 = .ok (.dload_n 3, 1) := by decide +kernel
theorem d6_ofReals_30 : decode b6_ofReals 30 = .ok (.dadd, 1) := by decide +kernel
theorem d6_ofReals_31 : decode b6_ofReals 31 = .ok (.dreturn, 1) := by decide +kernel
theorem d6_ofReals_32 : decode b6_ofReals 32 = .ok (.dload_n 1, 1) := by decide +kernel
theorem d6_ofReals_33 : decode b6_ofReals 33 = .ok (.dload_n 3, 1) := by decide +kernel
theorem d6_ofReals_34 : decode b6_ofReals 34 = .ok (.dsub, 1) := by decide +kernel
theorem d6_ofReals_35 : decode b6_ofReals 35 = .ok (.dreturn, 1) := by decide +kernel
theorem d6_ofReals_36 : decode b6_ofReals 36 = .ok (.dload_n 1, 1) := by decide +kernel
theorem d6_ofReals_37 : decode b6_ofReals 37 = .ok (.dload_n 3, 1) := by decide +kernel
theorem d6_ofReals_38 : decode b6_ofReals 38 = .ok (.dmul, 1) := by decide +kernel
theorem d6_ofReals_39 : decode b6_ofReals 39 = .ok (.dreturn, 1) := by decide +kernel
theorem d6_ofReals_40 : decode b6_ofReals 40 = .ok (.dload_n 3, 1) := by decide +kernel
theorem d6_ofReals_41 : decode b6_ofReals 41 = .ok (.dconst 0, 1) := by decide +kernel
theorem d6_ofReals_42 : decode b6_ofReals 42 = .ok (.dcmp .l, 1) := by decide +kernel
theorem d6_ofReals_43 : decode b6_ofReals 43 = .ok (.ifCond .ne 7, 3) := by decide +kernel
theorem d6_ofReals_46 : decode b6_ofReals 46 = .ok (.dconst 0, 1) := by decide +kernel
theorem d6_ofReals_47 : decode b6_ofReals 47 = .ok (.goto 6, 3) := by decide +kernel
theorem d6_ofReals_50 : decode b6_ofReals 50 = .ok (.dload_n 1, 1) := by decide +kernel
theorem d6_ofReals_51 : decode b6_ofReals 51 = .ok (.dload_n 3, 1) := by decide +kernel
theorem d6_ofReals_52 : decode b6_ofReals 52 = .ok (.ddiv, 1) := by decide +kernel
theorem d6_ofReals_53 : decode b6_ofReals 53 = .ok (.dreturn, 1) := by decide +kernel
theorem d6_convert_0 : decode b6_convert 0 = .ok (.iload_n 1, 1) := by decide +kernel
theorem d6_convert_1 : decode b6_convert 1 = .ok (.tableswitch 83 80 85 #[39, 83, 51, 63, 51, 68], 39) := by decide +kernel
theorem d6_convert_40 : decode b6_convert 40 = .ok (.aload_n 0, 1) := by decide +kernel
theorem d6_convert_41 : decode b6_convert 41 = .ok (.aload_n 0, 1) := by decide +kernel
theorem d6_convert_42 : decode b6_convert 42 = .ok (.invokevirtual 135, 3) := by decide +kernel
theorem d6_convert_45 : decode b6_convert 45 = .ok (.i2l, 1) := by decide +kernel
theorem d6_convert_46 : decode b6_convert 46 = .ok (.invokevirtual 191, 3) := by decide +kernel
theorem d6_convert_49 : decode b6_convert 49 = .ok (.goto 35, 3) := by decide +kernel
theorem d6_convert_52 : decode b6_convert 52 = .ok (.aload_n 0, 1) := by decide +kernel
theorem d6_convert_53 : decode b6_convert 53 = .ok (.aload_n 0, 1) := by decide +kernel
theorem d6_convert_54 : decode b6_convert 54 = .ok (.invokevirtual 211, 3) := by decide +kernel
theorem d6_convert_57 : decode b6_convert 57 = .ok (.l2d, 1) := by decide +kernel
theorem d6_convert_58 : decode b6_convert 58 = .ok (.invokevirtual 187, 3) := by decide +kernel
theorem d6_convert_61 : decode b6_convert 61 = .ok (.goto 23, 3) := by decide +kernel
theorem d6_convert_64 : decode b6_convert 64 = .ok (.aload_n 0, 1) := by decide +kernel
theorem d6_convert_65 : decode b6_convert 65 = .ok (.invokestatic 256, 3) := by decide +kernel
theorem d6_convert_68 : decode b6_convert 68 = .ok (.ireturn, 1) := by decide +kernel
theorem d6_convert_69 : decode b6_convert 69 = .ok (.aload_n 0, 1) := by decide +kernel
theorem d6_convert_70 : decode b6_convert 70 = .ok (.aload_n 0, 1) := by decide +kernel
theorem d6_convert_71 : decode b6_convert 71 = .ok (.invokevirtual 211, 3) := by decide +kernel
theorem d6_convert_74 : decode b6_convert 74 = .ok (.ldc2_w 238, 3) := by decide +kernel
theorem d6_convert_77 : decode b6_convert 77 = .ok (.land, 1) := by decide +kernel
theorem d6_convert_78 : decode b6_convert 78 = .ok (.invokevirtual 191, 3) := by decide +kernel
theorem d6_convert_81 : decode b6_convert 81 = .ok (.goto 3, 3) := by decide +kernel
theorem d6_convert_84 : decode b6_convert 84 = .ok (.iconst 0, 1) := by decide +kernel
theorem d6_convert_85 : decode b6_convert 85 = .ok (.ireturn, 1) := by decide +kernel
theorem d6_cut_0 : decode b6_cut 0 = .ok (.aload_n 0, 1) := by decide +kernel
theorem d6_cut_1 : decode b6_cut 1 = .ok (.invokevirtual 244, 3) := by decide +kernel
theorem d6_cut_4 : decode b6_cut 4 = .ok (.dstore_n 1, 1) := by decide +kernel
theorem d6_cut_5 : decode b6_cut 5 = .ok (.dload_n 1, 1) := by decide +kernel
theorem d6_cut_6 : decode b6_cut 6 = .ok (.ldc2_w 260, 3) := by decide +kernel
theorem d6_cut_9 : decode b6_cut 9 = .ok (.dcmp .l, 1) := by decide +kernel
theorem d6_cut_10 : decode b6_cut 10 = .ok (.ifCond .ge 11, 3) := by decide +kernel
theorem d6_cut_13 : decode b6_cut 13 = .ok (.dload_n 1, 1) := by decide +kernel
theorem d6_cut_14 : decode b6_cut 14 = .ok (.ldc2_w 262, 3) := by decide +kernel
theorem d6_cut_17 : decode b6_cut 17 = .ok (.dcmp .g, 1) := by decide +kernel
theorem d6_cut_18 : decode b6_cut 18 = .ok (.ifCond .gt 5, 3) := by decide +kernel
theorem d6_cut_21 : decode b6_cut 21 = .ok (.iconst 5, 1) := by decide +kernel
theorem d6_cut_22 : decode b6_cut 22 = .ok (.ireturn, 1) := by decide +kernel
theorem d6_cut_23 : decode b6_cut 23 = .ok (.aload_n 0, 1) := by decide +kernel
theorem d6_cut_24 : decode b6_cut 24 = .ok (.dload_n 1, 1) := by decide +kernel
theorem d6_cut_25 : decode b6_cut 25 = .ok (.d2i, 1) := by decide +kernel
theorem d6_cut_26 : decode b6_cut 26 = .ok (.i2l, 1) := by decide +kernel
theorem d6_cut_27 : decode b6_cut 27 = .ok (.invokevirtual 191, 3) := by decide +kernel
theorem d6_cut_30 : decode b6_cut 30 = .ok (.iconst 0, 1) := by decide +kernel
theorem d6_cut_31 : decode b6_cut 31 = .ok (.ireturn, 1) := by decide +kernel
theorem d7_init_0 : decode b7_init 0 = .ok (.aload_n 0, 1) := by decide +kernel
theorem d7_init_1 : decode b7_init 1 = .ok (.invokespecial 1, 3) := by decide +kernel
theorem d7_init_4 : decode b7_init 4 = .ok (.aload_n 0, 1) := by decide +kernel
theorem d7_init_5 : decode b7_init 5 = .ok (.bipush 64, 2) := by decide +kernel
theorem d7_init_7 : decode b7_init 7 = .ok (.newarray .int, 2) := by decide +kernel
theorem d7_init_9 : decode b7_init 9 = .ok (.putfield 9, 3) := by decide +kernel
theorem d7_init_12 : decode b7_init 12 = .ok (.return_, 1) := by decide +kernel
theorem d7_byteAt_0 : decode b7_byteAt 0 = .ok (.iload_n 1, 1) := by decide +kernel
theorem d7_byteAt_1 : decode b7_byteAt 1 = .ok (.ifCond .lt 18, 3) := by decide +kernel
theorem d7_byteAt_4 : decode b7_byteAt 4 = .ok (.iload_n 1, 1) := by decide +kernel
theorem d7_byteAt_5 : decode b7_byteAt 5 = .ok (.bipush 64, 2) := by decide +kernel
theorem d7_byteAt_7 : decode b7_byteAt 7 = .ok (.if_icmp .ge 12, 3) := by decide +kernel
theorem d7_byteAt_10 : decode b7_byteAt 10 = .ok (.aload_n 0, 1) := by decide +kernel
theorem d7_byteAt_11 : decode b7_byteAt 11 = .ok (.getfield 9, 3) := by decide +kernel
theorem d7_byteAt_14 : decode b7_byteAt 14 = .ok (.iload_n 1, 1) := by decide +kernel
theorem d7_byteAt_15 : decode b7_byteAt 15 = .ok (.iaload, 1) := by decide +kernel
theorem d7_byteAt_16 : decode b7_byteAt 16 = .ok (.goto 4, 3) := by decide +kernel
theorem d7_byteAt_19 : decode b7_byteAt 19 = .ok (.iconst 0, 1) := by decide +kernel
theorem d7_byteAt_20 : decode b7_byteAt 20 = .ok (.ireturn, 1) := by decide +kernel
theorem d7_clear_0 : decode b7_clear 0 = .ok (.iconst 0, 1) := by decide +kernel
theorem d7_clear_1 : decode b7_clear 1 = .ok (.istore_n 1, 1) := by decide +kernel
theorem d7_clear_2 : decode b7_clear 2 = .ok (.iconst 0, 1) := by decide +kernel
theorem d7_clear_3 : decode b7_clear 3 = .ok (.istore_n 2, 1) := by decide +kernel
theorem d7_clear_4 : decode b7_clear 4 = .ok (.iload_n 2, 1) := by decide +kernel
theorem d7_clear_5 : decode b7_clear 5 = .ok (.bipush 64, 2) := by decide +kernel
theorem d7_clear_7 : decode b7_clear 7 = .ok (.if_icmp .ge 28, 3) := by decide +kernel
theorem d7_clear_10 : decode b7_clear 10 = .ok (.aload_n 0, 1) := by decide +kernel
theorem d7_clear_11 : decode b7_clear 11 = .ok (.getfield 9, 3) := by decide +kernel
theorem d7_clear_14 : decode b7_clear 14 = .ok (.iload_n 2, 1) := by decide +kernel
theorem d7_clear_15 : decode b7_clear 15 = .ok (.iaload, 1) := by decide +kernel
theorem d7_clear_16 : decode b7_clear 16 = .ok (.ifCond .eq 13, 3) := by decide +kernel
theorem d7_clear_19 : decode b7_clear 19 = .ok (.iinc 1 1, 3) := by decide +kernel
theorem d7_clear_22 : decode b7_clear 22 = .ok (.aload_n 0, 1) := by decide +kernel
theorem d7_clear_23 : decode b7_clear 23 = .ok (.getfield 9, 3) := by decide +kernel
theorem d7_clear_26 : decode b7_clear 26 = .ok (.iload_n 2, 1) := by decide +kernel
theorem d7_clear_27 : decode b7_clear 27 = .ok (.iconst 0, 1) := by decide +kernel
theorem d7_clear_28 : decode b7_clear 28 = .ok (.iastore, 1) := by decide +kernel
theorem d7_clear_29 : decode b7_clear 29 = .ok (.iinc 2 1, 3) := by decide +kernel
theorem d7_clear_32 : decode b7_clear 32 = .ok (.goto (-28), 3) := by decide +kernel
theorem d7_clear_35 : decode b7_clear 35 = .ok (.iload_n 1, 1) := by decide +kernel
theorem d7_clear_36 : decode b7_clear 36 = .ok (.ireturn, 1) := by decide +kernel
theorem d7_holds_0 : decode b7_holds 0 = .ok (.lload_n 1, 1) := by decide +kernel
theorem d7_holds_1 : decode b7_holds 1 = .ok (.lconst 0, 1) := by decide +kernel
theorem d7_holds_2 : decode b7_holds 2 = .ok (.lcmp, 1) := by decide +kernel
theorem d7_holds_3 : decode b7_holds 3 = .ok (.ifCond .lt 18, 3) := by decide +kernel
theorem d7_holds_6 : decode b7_holds 6 = .ok (.lload_n 1, 1) := by decide +kernel
theorem d7_holds_7 : decode b7_holds 7 = .ok (.iload_n 3, 1) := by decide +kernel
theorem d7_holds_8 : decode b7_holds 8 = .ok (.i2l, 1) := by decide +kernel
theorem d7_holds_9 : decode b7_holds 9 = .ok (.ladd, 1) := by decide +kernel
theorem d7_holds_10 : decode b7_holds 10 = .ok (.ldc2_w 13, 3) := by decide +kernel
theorem d7_holds_13 : decode b7_holds 13 = .ok (.lcmp, 1) := by decide +kernel
theorem d7_holds_14 : decode b7_holds 14 = .ok (.ifCond .gt 7, 3) := by decide +kernel
theorem d7_holds_17 : decode b7_holds 17 = .ok (.iconst 1, 1) := by decide +kernel
theorem d7_holds_18 : decode b7_holds 18 = .ok (.goto 4, 3) := by decide +kernel
theorem d7_holds_21 : decode b7_holds 21 = .ok (.iconst 0, 1) := by decide +kernel
theorem d7_holds_22 : decode b7_holds 22 = .ok (.ireturn, 1) := by decide +kernel
theorem d7_load_0 : decode b7_load 0 = .ok (.lconst 0, 1) := by decide +kernel
theorem d7_load_1 : decode b7_load 1 = .ok (.lstore_n 3, 1) := by decide +kernel
theorem d7_load_2 : decode b7_load 2 = .ok (.iload_n 2, 1) := by decide +kernel
theorem d7_load_3 : decode b7_load 3 = .ok (.iconst 1, 1) := by decide +kernel
theorem d7_load_4 : decode b7_load 4 = .ok (.isub, 1) := by decide +kernel
theorem d7_load_5 : decode b7_load 5 = .ok (.istore 5, 2) := by decide +kernel
theorem d7_load_7 : decode b7_load 7 = .ok (.iload 5, 2) := by decide +kernel
theorem d7_load_9 : decode b7_load 9 = .ok (.ifCond .lt 24, 3) := by decide +kernel
theorem d7_load_12 : decode b7_load 12 = .ok (.lload_n 3, 1) := by decide +kernel
theorem d7_load_13 : decode b7_load 13 = .ok (.bipush 8, 2) := by decide +kernel
theorem d7_load_15 : decode b7_load 15 = .ok (.lshl, 1) := by decide +kernel
theorem d7_load_16 : decode b7_load 16 = .ok (.aload_n 0, 1) := by decide +kernel
theorem d7_load_17 : decode b7_load 17 = .ok (.iload_n 1, 1) := by decide +kernel
theorem d7_load_18 : decode b7_load 18 = .ok (.iload 5, 2) := by decide +kernel
theorem d7_load_20 : decode b7_load 20 = .ok (.iadd, 1) := by decide +kernel
theorem d7_load_21 : decode b7_load 21 = .ok (.invokevirtual 15, 3) := by decide +kernel
theorem d7_load_24 : decode b7_load 24 = .ok (.i2l, 1) := by decide +kernel
theorem d7_load_25 : decode b7_load 25 = .ok (.lor, 1) := by decide +kernel
theorem d7_load_26 : decode b7_load 26 = .ok (.lstore_n 3, 1) := by decide +kernel
theorem d7_load_27 : decode b7_load 27 = .ok (.iinc 5 (-1), 3) := by decide +kernel
theorem d7_load_30 : decode b7_load 30 = .ok (.goto (-23), 3) := by decide +kernel
theorem d7_load_33 : decode b7_load 33 = .ok (.lload_n 3, 1) := by decide +kernel
theorem d7_load_34 : decode b7_load 34 = .ok (.lreturn, 1) := by decide +kernel
theorem d7_store_0 : decode b7_store 0 = .ok (.iconst 0, 1) := by decide +kernel
theorem d7_store_1 : decode b7_store 1 = .ok (.istore 5, 2) := by decide +kernel
theorem d7_store_3 : decode b7_store 3 = .ok (.iload 5, 2) := by decide +kernel
theorem d7_store_5 : decode b7_store 5 = .ok (.iload_n 2, 1) := by decide +kernel
theorem d7_store_6 : decode b7_store 6 = .ok (.if_icmp .ge 46, 3) := by decide +kernel
theorem d7_store_9 : decode b7_store 9 = .ok (.iload_n 1, 1) := by decide +kernel
theorem d7_store_10 : decode b7_store 10 = .ok (.iload 5, 2) := by decide +kernel
theorem d7_store_12 : decode b7_store 12 = .ok (.iadd, 1) := by decide +kernel
theorem d7_store_13 : decode b7_store 13 = .ok (.ifCond .lt 33, 3) := by decide +kernel
theorem d7_store_16 : decode b7_store 16 = .ok (.iload_n 1, 1) := by decide +kernel
theorem d7_store_17 : decode b7_store 17 = .ok (.iload 5, 2) := by decide +kernel
theorem d7_store_19 : decode b7_store 19 = .ok (.iadd, 1) := by decide +kernel
theorem d7_store_20 : decode b7_store 20 = .ok (.bipush 64, 2) := by decide +kernel
theorem d7_store_22 : decode b7_store 22 = .ok (.if_icmp .ge 24, 3) := by decide +kernel
theorem d7_store_25 : decode b7_store 25 = .ok (.aload_n 0, 1) := by decide +kernel
theorem d7_store_26 : decode b7_store 26 = .ok (.getfield 9, 3) := by decide +kernel
theorem d7_store_29 : decode b7_store 29 = .ok (.iload_n 1, 1) := by decide +kernel
theorem d7_store_30 : decode b7_store 30 = .ok (.iload 5, 2) := by decide +kernel
theorem d7_store_32 : decode b7_store 32 = .ok (.iadd, 1) := by decide +kernel
theorem d7_store_33 : decode b7_store 33 = .ok (.lload_n 3, 1) := by decide +kernel
theorem d7_store_34 : decode b7_store 34 = .ok (.bipush 8, 2) := by decide +kernel
theorem d7_store_36 : decode b7_store 36 = .ok (.iload 5, 2) := by decide +kernel
theorem d7_store_38 : decode b7_store 38 = .ok (.imul, 1) := by decide +kernel
theorem d7_store_39 : decode b7_store 39 = .ok (.lushr, 1) := by decide +kernel
theorem d7_store_40 : decode b7_store 40 = .ok (.l2i, 1) := by decide +kernel
theorem d7_store_41 : decode b7_store 41 = .ok (.sipush 255, 3) := by decide +kernel
theorem d7_store_44 : decode b7_store 44 = .ok (.iand, 1) := by decide +kernel
theorem d7_store_45 : decode b7_store 45 = .ok (.iastore, 1) := by decide +kernel
theorem d7_store_46 : decode b7_store 46 = .ok (.iinc 5 1, 3) := by decide +kernel
theorem d7_store_49 : decode b7_store 49 = .ok (.goto (-46), 3) := by decide +kernel
theorem d7_store_52 : decode b7_store 52 = .ok (.return_, 1) := by decide +kernel
theorem dL_shape_0 : decode bL_shape 0 = .ok (.aload 5, 2) := by decide +kernel
theorem dL_shape_2 : decode bL_shape 2 = .ok (.iconst 0, 1) := by decide +kernel
theorem dL_shape_3 : decode bL_shape 3 = .ok (.aload_n 0, 1) := by decide +kernel
theorem dL_shape_4 : decode bL_shape 4 = .ok (.iload_n 1, 1) := by decide +kernel
theorem dL_shape_5 : decode bL_shape 5 = .ok (.iload_n 2, 1) := by decide +kernel
theorem dL_shape_6 : decode bL_shape 6 = .ok (.iload_n 3, 1) := by decide +kernel
theorem dL_shape_7 : decode bL_shape 7 = .ok (.iload 4, 2) := by decide +kernel
theorem dL_shape_9 : decode bL_shape 9 = .ok (.invokevirtual 7, 3) := by decide +kernel
theorem dL_shape_12 : decode bL_shape 12 = .ok (.i2l, 1) := by decide +kernel
theorem dL_shape_13 : decode bL_shape 13 = .ok (.lastore, 1) := by decide +kernel
theorem dL_shape_14 : decode bL_shape 14 = .ok (.goto 11, 3) := by decide +kernel
theorem dL_shape_17 : decode bL_shape 17 = .ok (.astore 6, 2) := by decide +kernel
theorem dL_shape_19 : decode bL_shape 19 = .ok (.iconst 1, 1) := by decide +kernel
theorem dL_shape_20 : decode bL_shape 20 = .ok (.ireturn, 1) := by decide +kernel
theorem dL_shape_21 : decode bL_shape 21 = .ok (.astore 6, 2) := by decide +kernel
theorem dL_shape_23 : decode bL_shape 23 = .ok (.iconst 2, 1) := by decide +kernel
theorem dL_shape_24 : decode bL_shape 24 = .ok (.ireturn, 1) := by decide +kernel
theorem dL_shape_25 : decode bL_shape 25 = .ok (.iconst 0, 1) := by decide +kernel
theorem dL_shape_26 : decode bL_shape 26 = .ok (.ireturn, 1) := by decide +kernel
theorem dL_code_0 : decode bL_code 0 = .ok (.aload 5, 2) := by decide +kernel
theorem dL_code_2 : decode bL_code 2 = .ok (.iconst 0, 1) := by decide +kernel
theorem dL_code_3 : decode bL_code 3 = .ok (.aload_n 0, 1) := by decide +kernel
theorem dL_code_4 : decode bL_code 4 = .ok (.iload_n 1, 1) := by decide +kernel
theorem dL_code_5 : decode bL_code 5 = .ok (.lload_n 2, 1) := by decide +kernel
theorem dL_code_6 : decode bL_code 6 = .ok (.iload 4, 2) := by decide +kernel
theorem dL_code_8 : decode bL_code 8 = .ok (.invokevirtual 17, 3) := by decide +kernel
theorem dL_code_11 : decode bL_code 11 = .ok (.i2l, 1) := by decide +kernel
theorem dL_code_12 : decode bL_code 12 = .ok (.lastore, 1) := by decide +kernel
theorem dL_code_13 : decode bL_code 13 = .ok (.goto 15, 3) := by decide +kernel
theorem dL_code_16 : decode bL_code 16 = .ok (.astore 6, 2) := by decide +kernel
theorem dL_code_18 : decode bL_code 18 = .ok (.iconst 1, 1) := by decide +kernel
theorem dL_code_19 : decode bL_code 19 = .ok (.ireturn, 1) := by decide +kernel
theorem dL_code_20 : decode bL_code 20 = .ok (.astore 6, 2) := by decide +kernel
theorem dL_code_22 : decode bL_code 22 = .ok (.iconst 2, 1) := by decide +kernel
theorem dL_code_23 : decode bL_code 23 = .ok (.ireturn, 1) := by decide +kernel
theorem dL_code_24 : decode bL_code 24 = .ok (.astore 6, 2) := by decide +kernel
theorem dL_code_26 : decode bL_code 26 = .ok (.iconst 3, 1) := by decide +kernel
theorem dL_code_27 : decode bL_code 27 = .ok (.ireturn, 1) := by decide +kernel
theorem dL_code_28 : decode bL_code 28 = .ok (.iconst 0, 1) := by decide +kernel
theorem dL_code_29 : decode bL_code 29 = .ok (.ireturn, 1) := by decide +kernel
theorem dL_table_0 : decode bL_table 0 = .ok (.aload_n 3, 1) := by decide +kernel
theorem dL_table_1 : decode bL_table 1 = .ok (.iconst 0, 1) := by decide +kernel
theorem dL_table_2 : decode bL_table 2 = .ok (.aload_n 0, 1) := by decide +kernel
theorem dL_table_3 : decode bL_table 3 = .ok (.iload_n 1, 1) := by decide +kernel
theorem dL_table_4 : decode bL_table 4 = .ok (.iload_n 2, 1) := by decide +kernel
theorem dL_table_5 : decode bL_table 5 = .ok (.invokevirtual 23, 3) := by decide +kernel
theorem dL_table_8 : decode bL_table 8 = .ok (.i2l, 1) := by decide +kernel
theorem dL_table_9 : decode bL_table 9 = .ok (.lastore, 1) := by decide +kernel
theorem dL_table_10 : decode bL_table 10 = .ok (.goto 7, 3) := by decide +kernel
theorem dL_table_13 : decode bL_table 13 = .ok (.astore 4, 2) := by decide +kernel
theorem dL_table_15 : decode bL_table 15 = .ok (.iconst 1, 1) := by decide +kernel
theorem dL_table_16 : decode bL_table 16 = .ok (.ireturn, 1) := by decide +kernel
theorem dL_table_17 : decode bL_table 17 = .ok (.iconst 0, 1) := by decide +kernel
theorem dL_table_18 : decode bL_table 18 = .ok (.ireturn, 1) := by decide +kernel
theorem dL_check_0 : decode bL_check 0 = .ok (.aload_n 1, 1) := by decide +kernel
theorem dL_check_1 : decode bL_check 1 = .ok (.iconst 0, 1) := by decide +kernel
theorem dL_check_2 : decode bL_check 2 = .ok (.aload_n 0, 1) := by decide +kernel
theorem dL_check_3 : decode bL_check 3 = .ok (.invokevirtual 27, 3) := by decide +kernel
theorem dL_check_6 : decode bL_check 6 = .ok (.i2l, 1) := by decide +kernel
theorem dL_check_7 : decode bL_check 7 = .ok (.lastore, 1) := by decide +kernel
theorem dL_check_8 : decode bL_check 8 = .ok (.goto 9, 3) := by decide +kernel
theorem dL_check_11 : decode bL_check 11 = .ok (.astore_n 2, 1) := by decide +kernel
theorem dL_check_12 : decode bL_check 12 = .ok (.iconst 1, 1) := by decide +kernel
theorem dL_check_13 : decode bL_check 13 = .ok (.ireturn, 1) := by decide +kernel
theorem dL_check_14 : decode bL_check 14 = .ok (.astore_n 2, 1) := by decide +kernel
theorem dL_check_15 : decode bL_check 15 = .ok (.iconst 2, 1) := by decide +kernel
theorem dL_check_16 : decode bL_check 16 = .ok (.ireturn, 1) := by decide +kernel
theorem dL_check_17 : decode bL_check 17 = .ok (.iconst 0, 1) := by decide +kernel
theorem dL_check_18 : decode bL_check 18 = .ok (.ireturn, 1) := by decide +kernel
theorem dL_fault_0 : decode bL_fault 0 = .ok (.aload_n 2, 1) := by decide +kernel
theorem dL_fault_1 : decode bL_fault 1 = .ok (.iconst 0, 1) := by decide +kernel
theorem dL_fault_2 : decode bL_fault 2 = .ok (.aload_n 0, 1) := by decide +kernel
theorem dL_fault_3 : decode bL_fault 3 = .ok (.iload_n 1, 1) := by decide +kernel
theorem dL_fault_4 : decode bL_fault 4 = .ok (.invokevirtual 33, 3) := by decide +kernel
theorem dL_fault_7 : decode bL_fault 7 = .ok (.i2l, 1) := by decide +kernel
theorem dL_fault_8 : decode bL_fault 8 = .ok (.lastore, 1) := by decide +kernel
theorem dL_fault_9 : decode bL_fault 9 = .ok (.goto 6, 3) := by decide +kernel
theorem dL_fault_12 : decode bL_fault 12 = .ok (.astore_n 3, 1) := by decide +kernel
theorem dL_fault_13 : decode bL_fault 13 = .ok (.iconst 1, 1) := by decide +kernel
theorem dL_fault_14 : decode bL_fault 14 = .ok (.ireturn, 1) := by decide +kernel
theorem dL_fault_15 : decode bL_fault 15 = .ok (.iconst 0, 1) := by decide +kernel
theorem dL_fault_16 : decode bL_fault 16 = .ok (.ireturn, 1) := by decide +kernel
theorem dL_argue_0 : decode bL_argue 0 = .ok (.aload_n 2, 1) := by decide +kernel
theorem dL_argue_1 : decode bL_argue 1 = .ok (.iconst 0, 1) := by decide +kernel
theorem dL_argue_2 : decode bL_argue 2 = .ok (.aload_n 0, 1) := by decide +kernel
theorem dL_argue_3 : decode bL_argue 3 = .ok (.iload_n 1, 1) := by decide +kernel
theorem dL_argue_4 : decode bL_argue 4 = .ok (.invokevirtual 37, 3) := by decide +kernel
theorem dL_argue_7 : decode bL_argue 7 = .ok (.i2l, 1) := by decide +kernel
theorem dL_argue_8 : decode bL_argue 8 = .ok (.lastore, 1) := by decide +kernel
theorem dL_argue_9 : decode bL_argue 9 = .ok (.goto 6, 3) := by decide +kernel
theorem dL_argue_12 : decode bL_argue 12 = .ok (.astore_n 3, 1) := by decide +kernel
theorem dL_argue_13 : decode bL_argue 13 = .ok (.iconst 1, 1) := by decide +kernel
theorem dL_argue_14 : decode bL_argue 14 = .ok (.ireturn, 1) := by decide +kernel
theorem dL_argue_15 : decode bL_argue 15 = .ok (.iconst 0, 1) := by decide +kernel
theorem dL_argue_16 : decode bL_argue 16 = .ok (.ireturn, 1) := by decide +kernel
theorem dL_start_0 : decode bL_start 0 = .ok (.aload_n 2, 1) := by decide +kernel
theorem dL_start_1 : decode bL_start 1 = .ok (.iconst 0, 1) := by decide +kernel
theorem dL_start_2 : decode bL_start 2 = .ok (.aload_n 0, 1) := by decide +kernel
theorem dL_start_3 : decode bL_start 3 = .ok (.iload_n 1, 1) := by decide +kernel
theorem dL_start_4 : decode bL_start 4 = .ok (.invokevirtual 40, 3) := by decide +kernel
theorem dL_start_7 : decode bL_start 7 = .ok (.i2l, 1) := by decide +kernel
theorem dL_start_8 : decode bL_start 8 = .ok (.lastore, 1) := by decide +kernel
theorem dL_start_9 : decode bL_start 9 = .ok (.goto 12, 3) := by decide +kernel
theorem dL_start_12 : decode bL_start 12 = .ok (.astore_n 3, 1) := by decide +kernel
theorem dL_start_13 : decode bL_start 13 = .ok (.iconst 1, 1) := by decide +kernel
theorem dL_start_14 : decode bL_start 14 = .ok (.ireturn, 1) := by decide +kernel
theorem dL_start_15 : decode bL_start 15 = .ok (.astore_n 3, 1) := by decide +kernel
theorem dL_start_16 : decode bL_start 16 = .ok (.iconst 2, 1) := by decide +kernel
theorem dL_start_17 : decode bL_start 17 = .ok (.ireturn, 1) := by decide +kernel
theorem dL_start_18 : decode bL_start 18 = .ok (.astore_n 3, 1) := by decide +kernel
theorem dL_start_19 : decode bL_start 19 = .ok (.iconst 3, 1) := by decide +kernel
theorem dL_start_20 : decode bL_start 20 = .ok (.ireturn, 1) := by decide +kernel
theorem dL_start_21 : decode bL_start 21 = .ok (.iconst 0, 1) := by decide +kernel
theorem dL_start_22 : decode bL_start 22 = .ok (.ireturn, 1) := by decide +kernel
theorem dL_run_0 : decode bL_run 0 = .ok (.aload_n 2, 1) := by decide +kernel
theorem dL_run_1 : decode bL_run 1 = .ok (.iconst 0, 1) := by decide +kernel
theorem dL_run_2 : decode bL_run 2 = .ok (.aload_n 0, 1) := by decide +kernel
theorem dL_run_3 : decode bL_run 3 = .ok (.iload_n 1, 1) := by decide +kernel
theorem dL_run_4 : decode bL_run 4 = .ok (.invokevirtual 43, 3) := by decide +kernel
theorem dL_run_7 : decode bL_run 7 = .ok (.i2l, 1) := by decide +kernel
theorem dL_run_8 : decode bL_run 8 = .ok (.lastore, 1) := by decide +kernel
theorem dL_run_9 : decode bL_run 9 = .ok (.goto 26, 3) := by decide +kernel
theorem dL_run_12 : decode bL_run 12 = .ok (.astore_n 3, 1) := by decide +kernel
theorem dL_run_13 : decode bL_run 13 = .ok (.iconst 1, 1) := by decide +kernel
theorem dL_run_14 : decode bL_run 14 = .ok (.ireturn, 1) := by decide +kernel
theorem dL_run_15 : decode bL_run 15 = .ok (.astore_n 3, 1) := by decide +kernel
theorem dL_run_16 : decode bL_run 16 = .ok (.iconst 2, 1) := by decide +kernel
theorem dL_run_17 : decode bL_run 17 = .ok (.ireturn, 1) := by decide +kernel
theorem dL_run_18 : decode bL_run 18 = .ok (.astore_n 3, 1) := by decide +kernel
theorem dL_run_19 : decode bL_run 19 = .ok (.iconst 3, 1) := by decide +kernel
theorem dL_run_20 : decode bL_run 20 = .ok (.ireturn, 1) := by decide +kernel
theorem dL_run_21 : decode bL_run 21 = .ok (.astore_n 3, 1) := by decide +kernel
theorem dL_run_22 : decode bL_run 22 = .ok (.iconst 4, 1) := by decide +kernel
theorem dL_run_23 : decode bL_run 23 = .ok (.ireturn, 1) := by decide +kernel
theorem dL_run_24 : decode bL_run 24 = .ok (.astore_n 3, 1) := by decide +kernel
theorem dL_run_25 : decode bL_run 25 = .ok (.iconst 5, 1) := by decide +kernel
theorem dL_run_26 : decode bL_run 26 = .ok (.ireturn, 1) := by decide +kernel
theorem dL_run_27 : decode bL_run 27 = .ok (.astore_n 3, 1) := by decide +kernel
theorem dL_run_28 : decode bL_run 28 = .ok (.bipush 6, 2) := by decide +kernel
theorem dL_run_30 : decode bL_run 30 = .ok (.ireturn, 1) := by decide +kernel
theorem dL_run_31 : decode bL_run 31 = .ok (.astore_n 3, 1) := by decide +kernel
theorem dL_run_32 : decode bL_run 32 = .ok (.bipush 7, 2) := by decide +kernel
theorem dL_run_34 : decode bL_run 34 = .ok (.ireturn, 1) := by decide +kernel
theorem dL_run_35 : decode bL_run 35 = .ok (.iconst 0, 1) := by decide +kernel
theorem dL_run_36 : decode bL_run 36 = .ok (.ireturn, 1) := by decide +kernel
theorem dL_stop_0 : decode bL_stop 0 = .ok (.aload_n 1, 1) := by decide +kernel
theorem dL_stop_1 : decode bL_stop 1 = .ok (.iconst 0, 1) := by decide +kernel
theorem dL_stop_2 : decode bL_stop 2 = .ok (.aload_n 0, 1) := by decide +kernel
theorem dL_stop_3 : decode bL_stop 3 = .ok (.invokevirtual 52, 3) := by decide +kernel
theorem dL_stop_6 : decode bL_stop 6 = .ok (.i2l, 1) := by decide +kernel
theorem dL_stop_7 : decode bL_stop 7 = .ok (.lastore, 1) := by decide +kernel
theorem dL_stop_8 : decode bL_stop 8 = .ok (.goto 6, 3) := by decide +kernel
theorem dL_stop_11 : decode bL_stop 11 = .ok (.astore_n 2, 1) := by decide +kernel
theorem dL_stop_12 : decode bL_stop 12 = .ok (.iconst 1, 1) := by decide +kernel
theorem dL_stop_13 : decode bL_stop 13 = .ok (.ireturn, 1) := by decide +kernel
theorem dL_stop_14 : decode bL_stop 14 = .ok (.iconst 0, 1) := by decide +kernel
theorem dL_stop_15 : decode bL_stop 15 = .ok (.ireturn, 1) := by decide +kernel
theorem dL_result_0 : decode bL_result 0 = .ok (.aload_n 1, 1) := by decide +kernel
theorem dL_result_1 : decode bL_result 1 = .ok (.iconst 0, 1) := by decide +kernel
theorem dL_result_2 : decode bL_result 2 = .ok (.aload_n 0, 1) := by decide +kernel
theorem dL_result_3 : decode bL_result 3 = .ok (.invokevirtual 55, 3) := by decide +kernel
theorem dL_result_6 : decode bL_result 6 = .ok (.lastore, 1) := by decide +kernel
theorem dL_result_7 : decode bL_result 7 = .ok (.goto 9, 3) := by decide +kernel
theorem dL_result_10 : decode bL_result 10 = .ok (.astore_n 2, 1) := by decide +kernel
theorem dL_result_11 : decode bL_result 11 = .ok (.iconst 1, 1) := by decide +kernel
theorem dL_result_12 : decode bL_result 12 = .ok (.ireturn, 1) := by decide +kernel
theorem dL_result_13 : decode bL_result 13 = .ok (.astore_n 2, 1) := by decide +kernel
theorem dL_result_14 : decode bL_result 14 = .ok (.iconst 2, 1) := by decide +kernel
theorem dL_result_15 : decode bL_result 15 = .ok (.ireturn, 1) := by decide +kernel
theorem dL_result_16 : decode bL_result 16 = .ok (.iconst 0, 1) := by decide +kernel
theorem dL_result_17 : decode bL_result 17 = .ok (.ireturn, 1) := by decide +kernel
theorem dL_real_0 : decode bL_real 0 = .ok (.aload_n 1, 1) := by decide +kernel
theorem dL_real_1 : decode bL_real 1 = .ok (.iconst 0, 1) := by decide +kernel
theorem dL_real_2 : decode bL_real 2 = .ok (.aload_n 0, 1) := by decide +kernel
theorem dL_real_3 : decode bL_real 3 = .ok (.invokevirtual 59, 3) := by decide +kernel
theorem dL_real_6 : decode bL_real 6 = .ok (.dastore, 1) := by decide +kernel
theorem dL_real_7 : decode bL_real 7 = .ok (.goto 9, 3) := by decide +kernel
theorem dL_real_10 : decode bL_real 10 = .ok (.astore_n 2, 1) := by decide +kernel
theorem dL_real_11 : decode bL_real 11 = .ok (.iconst 1, 1) := by decide +kernel
theorem dL_real_12 : decode bL_real 12 = .ok (.ireturn, 1) := by decide +kernel
theorem dL_real_13 : decode bL_real 13 = .ok (.astore_n 2, 1) := by decide +kernel
theorem dL_real_14 : decode bL_real 14 = .ok (.iconst 2, 1) := by decide +kernel
theorem dL_real_15 : decode bL_real 15 = .ok (.ireturn, 1) := by decide +kernel
theorem dL_real_16 : decode bL_real 16 = .ok (.iconst 0, 1) := by decide +kernel
theorem dL_real_17 : decode bL_real 17 = .ok (.ireturn, 1) := by decide +kernel
theorem dL_global_0 : decode bL_global 0 = .ok (.aload_n 2, 1) := by decide +kernel
theorem dL_global_1 : decode bL_global 1 = .ok (.iconst 0, 1) := by decide +kernel
theorem dL_global_2 : decode bL_global 2 = .ok (.aload_n 0, 1) := by decide +kernel
theorem dL_global_3 : decode bL_global 3 = .ok (.iload_n 1, 1) := by decide +kernel
theorem dL_global_4 : decode bL_global 4 = .ok (.invokevirtual 63, 3) := by decide +kernel
theorem dL_global_7 : decode bL_global 7 = .ok (.lastore, 1) := by decide +kernel
theorem dL_global_8 : decode bL_global 8 = .ok (.goto 6, 3) := by decide +kernel
theorem dL_global_11 : decode bL_global 11 = .ok (.astore_n 3, 1) := by decide +kernel
theorem dL_global_12 : decode bL_global 12 = .ok (.iconst 1, 1) := by decide +kernel
theorem dL_global_13 : decode bL_global 13 = .ok (.ireturn, 1) := by decide +kernel
theorem dL_global_14 : decode bL_global 14 = .ok (.iconst 0, 1) := by decide +kernel
theorem dL_global_15 : decode bL_global 15 = .ok (.ireturn, 1) := by decide +kernel
theorem dL_memory_0 : decode bL_memory 0 = .ok (.aload_n 2, 1) := by decide +kernel
theorem dL_memory_1 : decode bL_memory 1 = .ok (.iconst 0, 1) := by decide +kernel
theorem dL_memory_2 : decode bL_memory 2 = .ok (.aload_n 0, 1) := by decide +kernel
theorem dL_memory_3 : decode bL_memory 3 = .ok (.iload_n 1, 1) := by decide +kernel
theorem dL_memory_4 : decode bL_memory 4 = .ok (.invokevirtual 67, 3) := by decide +kernel
theorem dL_memory_7 : decode bL_memory 7 = .ok (.i2l, 1) := by decide +kernel
theorem dL_memory_8 : decode bL_memory 8 = .ok (.lastore, 1) := by decide +kernel
theorem dL_memory_9 : decode bL_memory 9 = .ok (.goto 6, 3) := by decide +kernel
theorem dL_memory_12 : decode bL_memory 12 = .ok (.astore_n 3, 1) := by decide +kernel
theorem dL_memory_13 : decode bL_memory 13 = .ok (.iconst 1, 1) := by decide +kernel
theorem dL_memory_14 : decode bL_memory 14 = .ok (.ireturn, 1) := by decide +kernel
theorem dL_memory_15 : decode bL_memory 15 = .ok (.iconst 0, 1) := by decide +kernel
theorem dL_memory_16 : decode bL_memory 16 = .ok (.ireturn, 1) := by decide +kernel
theorem dL_wipe_0 : decode bL_wipe 0 = .ok (.aload_n 1, 1) := by decide +kernel
theorem dL_wipe_1 : decode bL_wipe 1 = .ok (.iconst 0, 1) := by decide +kernel
theorem dL_wipe_2 : decode bL_wipe 2 = .ok (.aload_n 0, 1) := by decide +kernel
theorem dL_wipe_3 : decode bL_wipe 3 = .ok (.invokevirtual 70, 3) := by decide +kernel
theorem dL_wipe_6 : decode bL_wipe 6 = .ok (.i2l, 1) := by decide +kernel
theorem dL_wipe_7 : decode bL_wipe 7 = .ok (.lastore, 1) := by decide +kernel
theorem dL_wipe_8 : decode bL_wipe 8 = .ok (.goto 6, 3) := by decide +kernel
theorem dL_wipe_11 : decode bL_wipe 11 = .ok (.astore_n 2, 1) := by decide +kernel
theorem dL_wipe_12 : decode bL_wipe 12 = .ok (.iconst 1, 1) := by decide +kernel
theorem dL_wipe_13 : decode bL_wipe 13 = .ok (.ireturn, 1) := by decide +kernel
theorem dL_wipe_14 : decode bL_wipe 14 = .ok (.iconst 0, 1) := by decide +kernel
theorem dL_wipe_15 : decode bL_wipe 15 = .ok (.ireturn, 1) := by decide +kernel
theorem dL_count_0 : decode bL_count 0 = .ok (.aload_n 2, 1) := by decide +kernel
theorem dL_count_1 : decode bL_count 1 = .ok (.iconst 0, 1) := by decide +kernel
theorem dL_count_2 : decode bL_count 2 = .ok (.aload_n 0, 1) := by decide +kernel
theorem dL_count_3 : decode bL_count 3 = .ok (.iload_n 1, 1) := by decide +kernel
theorem dL_count_4 : decode bL_count 4 = .ok (.invokevirtual 73, 3) := by decide +kernel
theorem dL_count_7 : decode bL_count 7 = .ok (.i2l, 1) := by decide +kernel
theorem dL_count_8 : decode bL_count 8 = .ok (.lastore, 1) := by decide +kernel
theorem dL_count_9 : decode bL_count 9 = .ok (.goto 6, 3) := by decide +kernel
theorem dL_count_12 : decode bL_count 12 = .ok (.astore_n 3, 1) := by decide +kernel
theorem dL_count_13 : decode bL_count 13 = .ok (.iconst 1, 1) := by decide +kernel
theorem dL_count_14 : decode bL_count 14 = .ok (.ireturn, 1) := by decide +kernel
theorem dL_count_15 : decode bL_count 15 = .ok (.iconst 0, 1) := by decide +kernel
theorem dL_count_16 : decode bL_count 16 = .ok (.ireturn, 1) := by decide +kernel
theorem dL_law_0 : decode bL_law 0 = .ok (.new 8, 3) := by decide +kernel
theorem dL_law_3 : decode bL_law 3 = .ok (.dup, 1) := by decide +kernel
theorem dL_law_4 : decode bL_law 4 = .ok (.invokespecial 76, 3) := by decide +kernel
theorem dL_law_7 : decode bL_law 7 = .ok (.astore_n 1, 1) := by decide +kernel
theorem dL_law_8 : decode bL_law 8 = .ok (.new 77, 3) := by decide +kernel
theorem dL_law_11 : decode bL_law 11 = .ok (.dup, 1) := by decide +kernel
theorem dL_law_12 : decode bL_law 12 = .ok (.invokespecial 79, 3) := by decide +kernel
theorem dL_law_15 : decode bL_law 15 = .ok (.astore_n 2, 1) := by decide +kernel
theorem dL_law_16 : decode bL_law 16 = .ok (.iconst 1, 1) := by decide +kernel
theorem dL_law_17 : decode bL_law 17 = .ok (.newarray .long, 2) := by decide +kernel
theorem dL_law_19 : decode bL_law 19 = .ok (.astore_n 3, 1) := by decide +kernel
theorem dL_law_20 : decode bL_law 20 = .ok (.iconst 1, 1) := by decide +kernel
theorem dL_law_21 : decode bL_law 21 = .ok (.newarray .double, 2) := by decide +kernel
theorem dL_law_23 : decode bL_law 23 = .ok (.astore 4, 2) := by decide +kernel
theorem dL_law_25 : decode bL_law 25 = .ok (.iconst 0, 1) := by decide +kernel
theorem dL_law_26 : decode bL_law 26 = .ok (.istore 5, 2) := by decide +kernel
theorem dL_law_28 : decode bL_law 28 = .ok (.iload 5, 2) := by decide +kernel
theorem dL_law_30 : decode bL_law 30 = .ok (.aload_n 0, 1) := by decide +kernel
theorem dL_law_31 : decode bL_law 31 = .ok (.arraylength, 1) := by decide +kernel
theorem dL_law_32 : decode bL_law 32 = .ok (.iconst 5, 1) := by decide +kernel
theorem dL_law_33 : decode bL_law 33 = .ok (.isub, 1) := by decide +kernel
theorem dL_law_34 : decode bL_law 34 = .ok (.if_icmp .gt 1040, 3) := by decide +kernel
theorem dL_law_37 : decode bL_law 37 = .ok (.aload_n 0, 1) := by decide +kernel
theorem dL_law_38 : decode bL_law 38 = .ok (.iload 5, 2) := by decide +kernel
theorem dL_law_40 : decode bL_law 40 = .ok (.iaload, 1) := by decide +kernel
theorem dL_law_41 : decode bL_law 41 = .ok (.bipush 15, 2) := by decide +kernel
theorem dL_law_43 : decode bL_law 43 = .ok (.iand, 1) := by decide +kernel
theorem dL_law_44 : decode bL_law 44 = .ok (.tableswitch 1024 0 15 #[80, 172, 284, 352, 396, 452, 508, 564, 620, 664, 707, 772, 827, 868, 924, 968], 80) := by decide +kernel
theorem dL_law_124 : decode bL_law 124 = .ok (.aload_n 1, 1) := by decide +kernel
theorem dL_law_125 : decode bL_law 125 = .ok (.aload_n 0, 1) := by decide +kernel
theorem dL_law_126 : decode bL_law 126 = .ok (.iload 5, 2) := by decide +kernel
theorem dL_law_128 : decode bL_law 128 = .ok (.iconst 1, 1) := by decide +kernel
theorem dL_law_129 : decode bL_law 129 = .ok (.iadd, 1) := by decide +kernel
theorem dL_law_130 : decode bL_law 130 = .ok (.iaload, 1) := by decide +kernel
theorem dL_law_131 : decode bL_law 131 = .ok (.aload_n 0, 1) := by decide +kernel
theorem dL_law_132 : decode bL_law 132 = .ok (.iload 5, 2) := by decide +kernel
theorem dL_law_134 : decode bL_law 134 = .ok (.iconst 2, 1) := by decide +kernel
theorem dL_law_135 : decode bL_law 135 = .ok (.iadd, 1) := by decide +kernel
theorem dL_law_136 : decode bL_law 136 = .ok (.iaload, 1) := by decide +kernel
theorem dL_law_137 : decode bL_law 137 = .ok (.aload_n 0, 1) := by decide +kernel
theorem dL_law_138 : decode bL_law 138 = .ok (.iload 5, 2) := by decide +kernel
theorem dL_law_140 : decode bL_law 140 = .ok (.iconst 3, 1) := by decide +kernel
theorem dL_law_141 : decode bL_law 141 = .ok (.iadd, 1) := by decide +kernel
theorem dL_law_142 : decode bL_law 142 = .ok (.iaload, 1) := by decide +kernel
theorem dL_law_143 : decode bL_law 143 = .ok (.aload_n 0, 1) := by decide +kernel
theorem dL_law_144 : decode bL_law 144 = .ok (.iload 5, 2) := by decide +kernel
theorem dL_law_146 : decode bL_law 146 = .ok (.iconst 4, 1) := by decide +kernel
theorem dL_law_147 : decode bL_law 147 = .ok (.iadd, 1) := by decide +kernel
theorem dL_law_148 : decode bL_law 148 = .ok (.iaload, 1) := by decide +kernel
theorem dL_law_149 : decode bL_law 149 = .ok (.aload_n 3, 1) := by decide +kernel
theorem dL_law_150 : decode bL_law 150 = .ok (.invokestatic 80, 3) := by decide +kernel
theorem dL_law_153 : decode bL_law 153 = .ok (.istore 6, 2) := by decide +kernel
theorem dL_law_155 : decode bL_law 155 = .ok (.aload_n 2, 1) := by decide +kernel
theorem dL_law_156 : decode bL_law 156 = .ok (.aload_n 0, 1) := by decide +kernel
theorem dL_law_157 : decode bL_law 157 = .ok (.iload 5, 2) := by decide +kernel
theorem dL_law_159 : decode bL_law 159 = .ok (.iconst 1, 1) := by decide +kernel
theorem dL_law_160 : decode bL_law 160 = .ok (.iadd, 1) := by decide +kernel
theorem dL_law_161 : decode bL_law 161 = .ok (.iaload, 1) := by decide +kernel
theorem dL_law_162 : decode bL_law 162 = .ok (.aload_n 0, 1) := by decide +kernel
theorem dL_law_163 : decode bL_law 163 = .ok (.iload 5, 2) := by decide +kernel
theorem dL_law_165 : decode bL_law 165 = .ok (.iconst 2, 1) := by decide +kernel
theorem dL_law_166 : decode bL_law 166 = .ok (.iadd, 1) := by decide +kernel
theorem dL_law_167 : decode bL_law 167 = .ok (.iaload, 1) := by decide +kernel
theorem dL_law_168 : decode bL_law 168 = .ok (.aload_n 0, 1) := by decide +kernel
theorem dL_law_169 : decode bL_law 169 = .ok (.iload 5, 2) := by decide +kernel
theorem dL_law_171 : decode bL_law 171 = .ok (.iconst 3, 1) := by decide +kernel
theorem dL_law_172 : decode bL_law 172 = .ok (.iadd, 1) := by decide +kernel
theorem dL_law_173 : decode bL_law 173 = .ok (.iaload, 1) := by decide +kernel
theorem dL_law_174 : decode bL_law 174 = .ok (.aload_n 0, 1) := by decide +kernel
theorem dL_law_175 : decode bL_law 175 = .ok (.iload 5, 2) := by decide +kernel
theorem dL_law_177 : decode bL_law 177 = .ok (.iconst 4, 1) := by decide +kernel
theorem dL_law_178 : decode bL_law 178 = .ok (.iadd, 1) := by decide +kernel
theorem dL_law_179 : decode bL_law 179 = .ok (.iaload, 1) := by decide +kernel
theorem dL_law_180 : decode bL_law 180 = .ok (.invokevirtual 85, 3) := by decide +kernel
theorem dL_law_183 : decode bL_law 183 = .ok (.istore 7, 2) := by decide +kernel
theorem dL_law_185 : decode bL_law 185 = .ok (.aload_n 2, 1) := by decide +kernel
theorem dL_law_186 : decode bL_law 186 = .ok (.invokevirtual 86, 3) := by decide +kernel
theorem dL_law_189 : decode bL_law 189 = .ok (.iload 6, 2) := by decide +kernel
theorem dL_law_191 : decode bL_law 191 = .ok (.if_icmp .eq 5, 3) := by decide +kernel
theorem dL_law_194 : decode bL_law 194 = .ok (.iconst 0, 1) := by decide +kernel
theorem dL_law_195 : decode bL_law 195 = .ok (.ireturn, 1) := by decide +kernel
theorem dL_law_196 : decode bL_law 196 = .ok (.iload 6, 2) := by decide +kernel
theorem dL_law_198 : decode bL_law 198 = .ok (.ifCond .ne 15, 3) := by decide +kernel
theorem dL_law_201 : decode bL_law 201 = .ok (.aload_n 3, 1) := by decide +kernel
theorem dL_law_202 : decode bL_law 202 = .ok (.iconst 0, 1) := by decide +kernel
theorem dL_law_203 : decode bL_law 203 = .ok (.laload, 1) := by decide +kernel
theorem dL_law_204 : decode bL_law 204 = .ok (.iload 7, 2) := by decide +kernel
theorem dL_law_206 : decode bL_law 206 = .ok (.i2l, 1) := by decide +kernel
theorem dL_law_207 : decode bL_law 207 = .ok (.lcmp, 1) := by decide +kernel
theorem dL_law_208 : decode bL_law 208 = .ok (.ifCond .eq 5, 3) := by decide +kernel
theorem dL_law_211 : decode bL_law 211 = .ok (.iconst 0, 1) := by decide +kernel
theorem dL_law_212 : decode bL_law 212 = .ok (.ireturn, 1) := by decide +kernel
theorem dL_law_213 : decode bL_law 213 = .ok (.goto 855, 3) := by decide +kernel
theorem dL_law_216 : decode bL_law 216 = .ok (.aload_n 1, 1) := by decide +kernel
theorem dL_law_217 : decode bL_law 217 = .ok (.aload_n 0, 1) := by decide +kernel
theorem dL_law_218 : decode bL_law 218 = .ok (.iload 5, 2) := by decide +kernel
theorem dL_law_220 : decode bL_law 220 = .ok (.iconst 1, 1) := by decide +kernel
theorem dL_law_221 : decode bL_law 221 = .ok (.iadd, 1) := by decide +kernel
theorem dL_law_222 : decode bL_law 222 = .ok (.iaload, 1) := by decide +kernel
theorem dL_law_223 : decode bL_law 223 = .ok (.aload_n 0, 1) := by decide +kernel
theorem dL_law_224 : decode bL_law 224 = .ok (.iload 5, 2) := by decide +kernel
theorem dL_law_226 : decode bL_law 226 = .ok (.iconst 2, 1) := by decide +kernel
theorem dL_law_227 : decode bL_law 227 = .ok (.iadd, 1) := by decide +kernel
theorem dL_law_228 : decode bL_law 228 = .ok (.iaload, 1) := by decide +kernel
theorem dL_law_229 : decode bL_law 229 = .ok (.i2l, 1) := by decide +kernel
theorem dL_law_230 : decode bL_law 230 = .ok (.bipush 32, 2) := by decide +kernel
theorem dL_law_232 : decode bL_law 232 = .ok (.lshl, 1) := by decide +kernel
theorem dL_law_233 : decode bL_law 233 = .ok (.aload_n 0, 1) := by decide +kernel
theorem dL_law_234 : decode bL_law 234 = .ok (.iload 5, 2) := by decide +kernel
theorem dL_law_236 : decode bL_law 236 = .ok (.iconst 3, 1) := by decide +kernel
theorem dL_law_237 : decode bL_law 237 = .ok (.iadd, 1) := by decide +kernel
theorem dL_law_238 : decode bL_law 238 = .ok (.iaload, 1) := by decide +kernel
theorem dL_law_239 : decode bL_law 239 = .ok (.i2l, 1) := by decide +kernel
theorem dL_law_240 : decode bL_law 240 = .ok (.ldc2_w 89, 3) := by decide +kernel
theorem dL_law_243 : decode bL_law 243 = .ok (.land, 1) := by decide +kernel
theorem dL_law_244 : decode bL_law 244 = .ok (.lor, 1) := by decide +kernel
theorem dL_law_245 : decode bL_law 245 = .ok (.aload_n 0, 1) := by decide +kernel
theorem dL_law_246 : decode bL_law 246 = .ok (.iload 5, 2) := by decide +kernel
theorem dL_law_248 : decode bL_law 248 = .ok (.iconst 4, 1) := by decide +kernel
theorem dL_law_249 : decode bL_law 249 = .ok (.iadd, 1) := by decide +kernel
theorem dL_law_250 : decode bL_law 250 = .ok (.iaload, 1) := by decide +kernel
theorem dL_law_251 : decode bL_law 251 = .ok (.aload_n 3, 1) := by decide +kernel
theorem dL_law_252 : decode bL_law 252 = .ok (.invokestatic 91, 3) := by decide +kernel
theorem dL_law_255 : decode bL_law 255 = .ok (.istore 6, 2) := by decide +kernel
theorem dL_law_257 : decode bL_law 257 = .ok (.aload_n 2, 1) := by decide +kernel
theorem dL_law_258 : decode bL_law 258 = .ok (.aload_n 0, 1) := by decide +kernel
theorem dL_law_259 : decode bL_law 259 = .ok (.iload 5, 2) := by decide +kernel
theorem dL_law_261 : decode bL_law 261 = .ok (.iconst 1, 1) := by decide +kernel
theorem dL_law_262 : decode bL_law 262 = .ok (.iadd, 1) := by decide +kernel
theorem dL_law_263 : decode bL_law 263 = .ok (.iaload, 1) := by decide +kernel
theorem dL_law_264 : decode bL_law 264 = .ok (.aload_n 0, 1) := by decide +kernel
theorem dL_law_265 : decode bL_law 265 = .ok (.iload 5, 2) := by decide +kernel
theorem dL_law_267 : decode bL_law 267 = .ok (.iconst 2, 1) := by decide +kernel
theorem dL_law_268 : decode bL_law 268 = .ok (.iadd, 1) := by decide +kernel
theorem dL_law_269 : decode bL_law 269 = .ok (.iaload, 1) := by decide +kernel
theorem dL_law_270 : decode bL_law 270 = .ok (.i2l, 1) := by decide +kernel
theorem dL_law_271 : decode bL_law 271 = .ok (.bipush 32, 2) := by decide +kernel
theorem dL_law_273 : decode bL_law 273 = .ok (.lshl, 1) := by decide +kernel
theorem dL_law_274 : decode bL_law 274 = .ok (.aload_n 0, 1) := by decide +kernel
theorem dL_law_275 : decode bL_law 275 = .ok (.iload 5, 2) := by decide +kernel
theorem dL_law_277 : decode bL_law 277 = .ok (.iconst 3, 1) := by decide +kernel
theorem dL_law_278 : decode bL_law 278 = .ok (.iadd, 1) := by decide +kernel
theorem dL_law_279 : decode bL_law 279 = .ok (.iaload, 1) := by decide +kernel
theorem dL_law_280 : decode bL_law 280 = .ok (.i2l, 1) := by decide +kernel
theorem dL_law_281 : decode bL_law 281 = .ok (.ldc2_w 89, 3) := by decide +kernel
theorem dL_law_284 : decode bL_law 284 = .ok (.land, 1) := by decide +kernel
theorem dL_law_285 : decode bL_law 285 = .ok (.lor, 1) := by decide +kernel
theorem dL_law_286 : decode bL_law 286 = .ok (.aload_n 0, 1) := by decide +kernel
theorem dL_law_287 : decode bL_law 287 = .ok (.iload 5, 2) := by decide +kernel
theorem dL_law_289 : decode bL_law 289 = .ok (.iconst 4, 1) := by decide +kernel
theorem dL_law_290 : decode bL_law 290 = .ok (.iadd, 1) := by decide +kernel
theorem dL_law_291 : decode bL_law 291 = .ok (.iaload, 1) := by decide +kernel
theorem dL_law_292 : decode bL_law 292 = .ok (.invokevirtual 94, 3) := by decide +kernel
theorem dL_law_295 : decode bL_law 295 = .ok (.istore 7, 2) := by decide +kernel
theorem dL_law_297 : decode bL_law 297 = .ok (.aload_n 2, 1) := by decide +kernel
theorem dL_law_298 : decode bL_law 298 = .ok (.invokevirtual 86, 3) := by decide +kernel
theorem dL_law_301 : decode bL_law 301 = .ok (.iload 6, 2) := by decide +kernel
theorem dL_law_303 : decode bL_law 303 = .ok (.if_icmp .eq 5, 3) := by decide +kernel
theorem dL_law_306 : decode bL_law 306 = .ok (.iconst 0, 1) := by decide +kernel
theorem dL_law_307 : decode bL_law 307 = .ok (.ireturn, 1) := by decide +kernel
theorem dL_law_308 : decode bL_law 308 = .ok (.iload 6, 2) := by decide +kernel
theorem dL_law_310 : decode bL_law 310 = .ok (.ifCond .ne 15, 3) := by decide +kernel
theorem dL_law_313 : decode bL_law 313 = .ok (.aload_n 3, 1) := by decide +kernel
theorem dL_law_314 : decode bL_law 314 = .ok (.iconst 0, 1) := by decide +kernel
theorem dL_law_315 : decode bL_law 315 = .ok (.laload, 1) := by decide +kernel
theorem dL_law_316 : decode bL_law 316 = .ok (.iload 7, 2) := by decide +kernel
theorem dL_law_318 : decode bL_law 318 = .ok (.i2l, 1) := by decide +kernel
theorem dL_law_319 : decode bL_law 319 = .ok (.lcmp, 1) := by decide +kernel
theorem dL_law_320 : decode bL_law 320 = .ok (.ifCond .eq 5, 3) := by decide +kernel
theorem dL_law_323 : decode bL_law 323 = .ok (.iconst 0, 1) := by decide +kernel
theorem dL_law_324 : decode bL_law 324 = .ok (.ireturn, 1) := by decide +kernel
theorem dL_law_325 : decode bL_law 325 = .ok (.goto 743, 3) := by decide +kernel
theorem dL_law_328 : decode bL_law 328 = .ok (.aload_n 1, 1) := by decide +kernel
theorem dL_law_329 : decode bL_law 329 = .ok (.aload_n 0, 1) := by decide +kernel
theorem dL_law_330 : decode bL_law 330 = .ok (.iload 5, 2) := by decide +kernel
theorem dL_law_332 : decode bL_law 332 = .ok (.iconst 1, 1) := by decide +kernel
theorem dL_law_333 : decode bL_law 333 = .ok (.iadd, 1) := by decide +kernel
theorem dL_law_334 : decode bL_law 334 = .ok (.iaload, 1) := by decide +kernel
theorem dL_law_335 : decode bL_law 335 = .ok (.aload_n 0, 1) := by decide +kernel
theorem dL_law_336 : decode bL_law 336 = .ok (.iload 5, 2) := by decide +kernel
theorem dL_law_338 : decode bL_law 338 = .ok (.iconst 2, 1) := by decide +kernel
theorem dL_law_339 : decode bL_law 339 = .ok (.iadd, 1) := by decide +kernel
theorem dL_law_340 : decode bL_law 340 = .ok (.iaload, 1) := by decide +kernel
theorem dL_law_341 : decode bL_law 341 = .ok (.aload_n 3, 1) := by decide +kernel
theorem dL_law_342 : decode bL_law 342 = .ok (.invokestatic 95, 3) := by decide +kernel
theorem dL_law_345 : decode bL_law 345 = .ok (.istore 6, 2) := by decide +kernel
theorem dL_law_347 : decode bL_law 347 = .ok (.aload_n 2, 1) := by decide +kernel
theorem dL_law_348 : decode bL_law 348 = .ok (.aload_n 0, 1) := by decide +kernel
theorem dL_law_349 : decode bL_law 349 = .ok (.iload 5, 2) := by decide +kernel
theorem dL_law_351 : decode bL_law 351 = .ok (.iconst 1, 1) := by decide +kernel
theorem dL_law_352 : decode bL_law 352 = .ok (.iadd, 1) := by decide +kernel
theorem dL_law_353 : decode bL_law 353 = .ok (.iaload, 1) := by decide +kernel
theorem dL_law_354 : decode bL_law 354 = .ok (.aload_n 0, 1) := by decide +kernel
theorem dL_law_355 : decode bL_law 355 = .ok (.iload 5, 2) := by decide +kernel
theorem dL_law_357 : decode bL_law 357 = .ok (.iconst 2, 1) := by decide +kernel
theorem dL_law_358 : decode bL_law 358 = .ok (.iadd, 1) := by decide +kernel
theorem dL_law_359 : decode bL_law 359 = .ok (.iaload, 1) := by decide +kernel
theorem dL_law_360 : decode bL_law 360 = .ok (.invokevirtual 98, 3) := by decide +kernel
theorem dL_law_363 : decode bL_law 363 = .ok (.istore 7, 2) := by decide +kernel
theorem dL_law_365 : decode bL_law 365 = .ok (.aload_n 2, 1) := by decide +kernel
theorem dL_law_366 : decode bL_law 366 = .ok (.invokevirtual 86, 3) := by decide +kernel
theorem dL_law_369 : decode bL_law 369 = .ok (.iload 6, 2) := by decide +kernel
theorem dL_law_371 : decode bL_law 371 = .ok (.if_icmp .eq 5, 3) := by decide +kernel
theorem dL_law_374 : decode bL_law 374 = .ok (.iconst 0, 1) := by decide +kernel
theorem dL_law_375 : decode bL_law 375 = .ok (.ireturn, 1) := by decide +kernel
theorem dL_law_376 : decode bL_law 376 = .ok (.iload 6, 2) := by decide +kernel
theorem dL_law_378 : decode bL_law 378 = .ok (.ifCond .ne 15, 3) := by decide +kernel
theorem dL_law_381 : decode bL_law 381 = .ok (.aload_n 3, 1) := by decide +kernel
theorem dL_law_382 : decode bL_law 382 = .ok (.iconst 0, 1) := by decide +kernel
theorem dL_law_383 : decode bL_law 383 = .ok (.laload, 1) := by decide +kernel
theorem dL_law_384 : decode bL_law 384 = .ok (.iload 7, 2) := by decide +kernel
theorem dL_law_386 : decode bL_law 386 = .ok (.i2l, 1) := by decide +kernel
theorem dL_law_387 : decode bL_law 387 = .ok (.lcmp, 1) := by decide +kernel
theorem dL_law_388 : decode bL_law 388 = .ok (.ifCond .eq 5, 3) := by decide +kernel
theorem dL_law_391 : decode bL_law 391 = .ok (.iconst 0, 1) := by decide +kernel
theorem dL_law_392 : decode bL_law 392 = .ok (.ireturn, 1) := by decide +kernel
theorem dL_law_393 : decode bL_law 393 = .ok (.goto 675, 3) := by decide +kernel
theorem dL_law_396 : decode bL_law 396 = .ok (.aload_n 1, 1) := by decide +kernel
theorem dL_law_397 : decode bL_law 397 = .ok (.aload_n 3, 1) := by decide +kernel
theorem dL_law_398 : decode bL_law 398 = .ok (.invokestatic 99, 3) := by decide +kernel
theorem dL_law_401 : decode bL_law 401 = .ok (.istore 6, 2) := by decide +kernel
theorem dL_law_403 : decode bL_law 403 = .ok (.aload_n 2, 1) := by decide +kernel
theorem dL_law_404 : decode bL_law 404 = .ok (.invokevirtual 102, 3) := by decide +kernel
theorem dL_law_407 : decode bL_law 407 = .ok (.istore 7, 2) := by decide +kernel
theorem dL_law_409 : decode bL_law 409 = .ok (.aload_n 2, 1) := by decide +kernel
theorem dL_law_410 : decode bL_law 410 = .ok (.invokevirtual 86, 3) := by decide +kernel
theorem dL_law_413 : decode bL_law 413 = .ok (.iload 6, 2) := by decide +kernel
theorem dL_law_415 : decode bL_law 415 = .ok (.if_icmp .eq 5, 3) := by decide +kernel
theorem dL_law_418 : decode bL_law 418 = .ok (.iconst 0, 1) := by decide +kernel
theorem dL_law_419 : decode bL_law 419 = .ok (.ireturn, 1) := by decide +kernel
theorem dL_law_420 : decode bL_law 420 = .ok (.iload 6, 2) := by decide +kernel
theorem dL_law_422 : decode bL_law 422 = .ok (.ifCond .ne 15, 3) := by decide +kernel
theorem dL_law_425 : decode bL_law 425 = .ok (.aload_n 3, 1) := by decide +kernel
theorem dL_law_426 : decode bL_law 426 = .ok (.iconst 0, 1) := by decide +kernel
theorem dL_law_427 : decode bL_law 427 = .ok (.laload, 1) := by decide +kernel
theorem dL_law_428 : decode bL_law 428 = .ok (.iload 7, 2) := by decide +kernel
theorem dL_law_430 : decode bL_law 430 = .ok (.i2l, 1) := by decide +kernel
theorem dL_law_431 : decode bL_law 431 = .ok (.lcmp, 1) := by decide +kernel
theorem dL_law_432 : decode bL_law 432 = .ok (.ifCond .eq 5, 3) := by decide +kernel
theorem dL_law_435 : decode bL_law 435 = .ok (.iconst 0, 1) := by decide +kernel
theorem dL_law_436 : decode bL_law 436 = .ok (.ireturn, 1) := by decide +kernel
theorem dL_law_437 : decode bL_law 437 = .ok (.goto 631, 3) := by decide +kernel
theorem dL_law_440 : decode bL_law 440 = .ok (.aload_n 1, 1) := by decide +kernel
theorem dL_law_441 : decode bL_law 441 = .ok (.aload_n 0, 1) := by decide +kernel
theorem dL_law_442 : decode bL_law 442 = .ok (.iload 5, 2) := by decide +kernel
theorem dL_law_444 : decode bL_law 444 = .ok (.iconst 1, 1) := by decide +kernel
theorem dL_law_445 : decode bL_law 445 = .ok (.iadd, 1) := by decide +kernel
theorem dL_law_446 : decode bL_law 446 = .ok (.iaload, 1) := by decide +kernel
theorem dL_law_447 : decode bL_law 447 = .ok (.aload_n 3, 1) := by decide +kernel
theorem dL_law_448 : decode bL_law 448 = .ok (.invokestatic 103, 3) := by decide +kernel
theorem dL_law_451 : decode bL_law 451 = .ok (.istore 6, 2) := by decide +kernel
theorem dL_law_453 : decode bL_law 453 = .ok (.aload_n 2, 1) := by decide +kernel
theorem dL_law_454 : decode bL_law 454 = .ok (.aload_n 0, 1) := by decide +kernel
theorem dL_law_455 : decode bL_law 455 = .ok (.iload 5, 2) := by decide +kernel
theorem dL_law_457 : decode bL_law 457 = .ok (.iconst 1, 1) := by decide +kernel
theorem dL_law_458 : decode bL_law 458 = .ok (.iadd, 1) := by decide +kernel
theorem dL_law_459 : decode bL_law 459 = .ok (.iaload, 1) := by decide +kernel
theorem dL_law_460 : decode bL_law 460 = .ok (.invokevirtual 106, 3) := by decide +kernel
theorem dL_law_463 : decode bL_law 463 = .ok (.istore 7, 2) := by decide +kernel
theorem dL_law_465 : decode bL_law 465 = .ok (.aload_n 2, 1) := by decide +kernel
theorem dL_law_466 : decode bL_law 466 = .ok (.invokevirtual 86, 3) := by decide +kernel
theorem dL_law_469 : decode bL_law 469 = .ok (.iload 6, 2) := by decide +kernel
theorem dL_law_471 : decode bL_law 471 = .ok (.if_icmp .eq 5, 3) := by decide +kernel
theorem dL_law_474 : decode bL_law 474 = .ok (.iconst 0, 1) := by decide +kernel
theorem dL_law_475 : decode bL_law 475 = .ok (.ireturn, 1) := by decide +kernel
theorem dL_law_476 : decode bL_law 476 = .ok (.iload 6, 2) := by decide +kernel
theorem dL_law_478 : decode bL_law 478 = .ok (.ifCond .ne 15, 3) := by decide +kernel
theorem dL_law_481 : decode bL_law 481 = .ok (.aload_n 3, 1) := by decide +kernel
theorem dL_law_482 : decode bL_law 482 = .ok (.iconst 0, 1) := by decide +kernel
theorem dL_law_483 : decode bL_law 483 = .ok (.laload, 1) := by decide +kernel
theorem dL_law_484 : decode bL_law 484 = .ok (.iload 7, 2) := by decide +kernel
theorem dL_law_486 : decode bL_law 486 = .ok (.i2l, 1) := by decide +kernel
theorem dL_law_487 : decode bL_law 487 = .ok (.lcmp, 1) := by decide +kernel
theorem dL_law_488 : decode bL_law 488 = .ok (.ifCond .eq 5, 3) := by decide +kernel
theorem dL_law_491 : decode bL_law 491 = .ok (.iconst 0, 1) := by decide +kernel
theorem dL_law_492 : decode bL_law 492 = .ok (.ireturn, 1) := by decide +kernel
theorem dL_law_493 : decode bL_law 493 = .ok (.goto 575, 3) := by decide +kernel
theorem dL_law_496 : decode bL_law 496 = .ok (.aload_n 1, 1) := by decide +kernel
theorem dL_law_497 : decode bL_law 497 = .ok (.aload_n 0, 1) := by decide +kernel
theorem dL_law_498 : decode bL_law 498 = .ok (.iload 5, 2) := by decide +kernel
theorem dL_law_500 : decode bL_law 500 = .ok (.iconst 1, 1) := by decide +kernel
theorem dL_law_501 : decode bL_law 501 = .ok (.iadd, 1) := by decide +kernel
theorem dL_law_502 : decode bL_law 502 = .ok (.iaload, 1) := by decide +kernel
theorem dL_law_503 : decode bL_law 503 = .ok (.aload_n 3, 1) := by decide +kernel
theorem dL_law_504 : decode bL_law 504 = .ok (.invokestatic 107, 3) := by decide +kernel
theorem dL_law_507 : decode bL_law 507 = .ok (.istore 6, 2) := by decide +kernel
theorem dL_law_509 : decode bL_law 509 = .ok (.aload_n 2, 1) := by decide +kernel
theorem dL_law_510 : decode bL_law 510 = .ok (.aload_n 0, 1) := by decide +kernel
theorem dL_law_511 : decode bL_law 511 = .ok (.iload 5, 2) := by decide +kernel
theorem dL_law_513 : decode bL_law 513 = .ok (.iconst 1, 1) := by decide +kernel
theorem dL_law_514 : decode bL_law 514 = .ok (.iadd, 1) := by decide +kernel
theorem dL_law_515 : decode bL_law 515 = .ok (.iaload, 1) := by decide +kernel
theorem dL_law_516 : decode bL_law 516 = .ok (.invokevirtual 109, 3) := by decide +kernel
theorem dL_law_519 : decode bL_law 519 = .ok (.istore 7, 2) := by decide +kernel
theorem dL_law_521 : decode bL_law 521 = .ok (.aload_n 2, 1) := by decide +kernel
theorem dL_law_522 : decode bL_law 522 = .ok (.invokevirtual 86, 3) := by decide +kernel
theorem dL_law_525 : decode bL_law 525 = .ok (.iload 6, 2) := by decide +kernel
theorem dL_law_527 : decode bL_law 527 = .ok (.if_icmp .eq 5, 3) := by decide +kernel
theorem dL_law_530 : decode bL_law 530 = .ok (.iconst 0, 1) := by decide +kernel
theorem dL_law_531 : decode bL_law 531 = .ok (.ireturn, 1) := by decide +kernel
theorem dL_law_532 : decode bL_law 532 = .ok (.iload 6, 2) := by decide +kernel
theorem dL_law_534 : decode bL_law 534 = .ok (.ifCond .ne 15, 3) := by decide +kernel
theorem dL_law_537 : decode bL_law 537 = .ok (.aload_n 3, 1) := by decide +kernel
theorem dL_law_538 : decode bL_law 538 = .ok (.iconst 0, 1) := by decide +kernel
theorem dL_law_539 : decode bL_law 539 = .ok (.laload, 1) := by decide +kernel
theorem dL_law_540 : decode bL_law 540 = .ok (.iload 7, 2) := by decide +kernel
theorem dL_law_542 : decode bL_law 542 = .ok (.i2l, 1) := by decide +kernel
theorem dL_law_543 : decode bL_law 543 = .ok (.lcmp, 1) := by decide +kernel
theorem dL_law_544 : decode bL_law 544 = .ok (.ifCond .eq 5, 3) := by decide +kernel
theorem dL_law_547 : decode bL_law 547 = .ok (.iconst 0, 1) := by decide +kernel
theorem dL_law_548 : decode bL_law 548 = .ok (.ireturn, 1) := by decide +kernel
theorem dL_law_549 : decode bL_law 549 = .ok (.goto 519, 3) := by decide +kernel
theorem dL_law_552 : decode bL_law 552 = .ok (.aload_n 1, 1) := by decide +kernel
theorem dL_law_553 : decode bL_law 553 = .ok (.aload_n 0, 1) := by decide +kernel
theorem dL_law_554 : decode bL_law 554 = .ok (.iload 5, 2) := by decide +kernel
theorem dL_law_556 : decode bL_law 556 = .ok (.iconst 1, 1) := by decide +kernel
theorem dL_law_557 : decode bL_law 557 = .ok (.iadd, 1) := by decide +kernel
theorem dL_law_558 : decode bL_law 558 = .ok (.iaload, 1) := by decide +kernel
theorem dL_law_559 : decode bL_law 559 = .ok (.aload_n 3, 1) := by decide +kernel
theorem dL_law_560 : decode bL_law 560 = .ok (.invokestatic 110, 3) := by decide +kernel
theorem dL_law_563 : decode bL_law 563 = .ok (.istore 6, 2) := by decide +kernel
theorem dL_law_565 : decode bL_law 565 = .ok (.aload_n 2, 1) := by decide +kernel
theorem dL_law_566 : decode bL_law 566 = .ok (.aload_n 0, 1) := by decide +kernel
theorem dL_law_567 : decode bL_law 567 = .ok (.iload 5, 2) := by decide +kernel
theorem dL_law_569 : decode bL_law 569 = .ok (.iconst 1, 1) := by decide +kernel
theorem dL_law_570 : decode bL_law 570 = .ok (.iadd, 1) := by decide +kernel
theorem dL_law_571 : decode bL_law 571 = .ok (.iaload, 1) := by decide +kernel
theorem dL_law_572 : decode bL_law 572 = .ok (.invokevirtual 112, 3) := by decide +kernel
theorem dL_law_575 : decode bL_law 575 = .ok (.istore 7, 2) := by decide +kernel
theorem dL_law_577 : decode bL_law 577 = .ok (.aload_n 2, 1) := by decide +kernel
theorem dL_law_578 : decode bL_law 578 = .ok (.invokevirtual 86, 3) := by decide +kernel
theorem dL_law_581 : decode bL_law 581 = .ok (.iload 6, 2) := by decide +kernel
theorem dL_law_583 : decode bL_law 583 = .ok (.if_icmp .eq 5, 3) := by decide +kernel
theorem dL_law_586 : decode bL_law 586 = .ok (.iconst 0, 1) := by decide +kernel
theorem dL_law_587 : decode bL_law 587 = .ok (.ireturn, 1) := by decide +kernel
theorem dL_law_588 : decode bL_law 588 = .ok (.iload 6, 2) := by decide +kernel
theorem dL_law_590 : decode bL_law 590 = .ok (.ifCond .ne 15, 3) := by decide +kernel
theorem dL_law_593 : decode bL_law 593 = .ok (.aload_n 3, 1) := by decide +kernel
theorem dL_law_594 : decode bL_law 594 = .ok (.iconst 0, 1) := by decide +kernel
theorem dL_law_595 : decode bL_law 595 = .ok (.laload, 1) := by decide +kernel
theorem dL_law_596 : decode bL_law 596 = .ok (.iload 7, 2) := by decide +kernel
theorem dL_law_598 : decode bL_law 598 = .ok (.i2l, 1) := by decide +kernel
theorem dL_law_599 : decode bL_law 599 = .ok (.lcmp, 1) := by decide +kernel
theorem dL_law_600 : decode bL_law 600 = .ok (.ifCond .eq 5, 3) := by decide +kernel
theorem dL_law_603 : decode bL_law 603 = .ok (.iconst 0, 1) := by decide +kernel
theorem dL_law_604 : decode bL_law 604 = .ok (.ireturn, 1) := by decide +kernel
theorem dL_law_605 : decode bL_law 605 = .ok (.goto 463, 3) := by decide +kernel
theorem dL_law_608 : decode bL_law 608 = .ok (.aload_n 1, 1) := by decide +kernel
theorem dL_law_609 : decode bL_law 609 = .ok (.aload_n 0, 1) := by decide +kernel
theorem dL_law_610 : decode bL_law 610 = .ok (.iload 5, 2) := by decide +kernel
theorem dL_law_612 : decode bL_law 612 = .ok (.iconst 1, 1) := by decide +kernel
theorem dL_law_613 : decode bL_law 613 = .ok (.iadd, 1) := by decide +kernel
theorem dL_law_614 : decode bL_law 614 = .ok (.iaload, 1) := by decide +kernel
theorem dL_law_615 : decode bL_law 615 = .ok (.aload_n 3, 1) := by decide +kernel
theorem dL_law_616 : decode bL_law 616 = .ok (.invokestatic 113, 3) := by decide +kernel
theorem dL_law_619 : decode bL_law 619 = .ok (.istore 6, 2) := by decide +kernel
theorem dL_law_621 : decode bL_law 621 = .ok (.aload_n 2, 1) := by decide +kernel
theorem dL_law_622 : decode bL_law 622 = .ok (.aload_n 0, 1) := by decide +kernel
theorem dL_law_623 : decode bL_law 623 = .ok (.iload 5, 2) := by decide +kernel
theorem dL_law_625 : decode bL_law 625 = .ok (.iconst 1, 1) := by decide +kernel
theorem dL_law_626 : decode bL_law 626 = .ok (.iadd, 1) := by decide +kernel
theorem dL_law_627 : decode bL_law 627 = .ok (.iaload, 1) := by decide +kernel
theorem dL_law_628 : decode bL_law 628 = .ok (.invokevirtual 115, 3) := by decide +kernel
theorem dL_law_631 : decode bL_law 631 = .ok (.istore 7, 2) := by decide +kernel
theorem dL_law_633 : decode bL_law 633 = .ok (.aload_n 2, 1) := by decide +kernel
theorem dL_law_634 : decode bL_law 634 = .ok (.invokevirtual 86, 3) := by decide +kernel
theorem dL_law_637 : decode bL_law 637 = .ok (.iload 6, 2) := by decide +kernel
theorem dL_law_639 : decode bL_law 639 = .ok (.if_icmp .eq 5, 3) := by decide +kernel
theorem dL_law_642 : decode bL_law 642 = .ok (.iconst 0, 1) := by decide +kernel
theorem dL_law_643 : decode bL_law 643 = .ok (.ireturn, 1) := by decide +kernel
theorem dL_law_644 : decode bL_law 644 = .ok (.iload 6, 2) := by decide +kernel
theorem dL_law_646 : decode bL_law 646 = .ok (.ifCond .ne 15, 3) := by decide +kernel
theorem dL_law_649 : decode bL_law 649 = .ok (.aload_n 3, 1) := by decide +kernel
theorem dL_law_650 : decode bL_law 650 = .ok (.iconst 0, 1) := by decide +kernel
theorem dL_law_651 : decode bL_law 651 = .ok (.laload, 1) := by decide +kernel
theorem dL_law_652 : decode bL_law 652 = .ok (.iload 7, 2) := by decide +kernel
theorem dL_law_654 : decode bL_law 654 = .ok (.i2l, 1) := by decide +kernel
theorem dL_law_655 : decode bL_law 655 = .ok (.lcmp, 1) := by decide +kernel
theorem dL_law_656 : decode bL_law 656 = .ok (.ifCond .eq 5, 3) := by decide +kernel
theorem dL_law_659 : decode bL_law 659 = .ok (.iconst 0, 1) := by decide +kernel
theorem dL_law_660 : decode bL_law 660 = .ok (.ireturn, 1) := by decide +kernel
theorem dL_law_661 : decode bL_law 661 = .ok (.goto 407, 3) := by decide +kernel
theorem dL_law_664 : decode bL_law 664 = .ok (.aload_n 1, 1) := by decide +kernel
theorem dL_law_665 : decode bL_law 665 = .ok (.aload_n 3, 1) := by decide +kernel
theorem dL_law_666 : decode bL_law 666 = .ok (.invokestatic 116, 3) := by decide +kernel
theorem dL_law_669 : decode bL_law 669 = .ok (.istore 6, 2) := by decide +kernel
theorem dL_law_671 : decode bL_law 671 = .ok (.aload_n 2, 1) := by decide +kernel
theorem dL_law_672 : decode bL_law 672 = .ok (.invokevirtual 118, 3) := by decide +kernel
theorem dL_law_675 : decode bL_law 675 = .ok (.istore 7, 2) := by decide +kernel
theorem dL_law_677 : decode bL_law 677 = .ok (.aload_n 2, 1) := by decide +kernel
theorem dL_law_678 : decode bL_law 678 = .ok (.invokevirtual 86, 3) := by decide +kernel
theorem dL_law_681 : decode bL_law 681 = .ok (.iload 6, 2) := by decide +kernel
theorem dL_law_683 : decode bL_law 683 = .ok (.if_icmp .eq 5, 3) := by decide +kernel
theorem dL_law_686 : decode bL_law 686 = .ok (.iconst 0, 1) := by decide +kernel
theorem dL_law_687 : decode bL_law 687 = .ok (.ireturn, 1) := by decide +kernel
theorem dL_law_688 : decode bL_law 688 = .ok (.iload 6, 2) := by decide +kernel
theorem dL_law_690 : decode bL_law 690 = .ok (.ifCond .ne 15, 3) := by decide +kernel
theorem dL_law_693 : decode bL_law 693 = .ok (.aload_n 3, 1) := by decide +kernel
theorem dL_law_694 : decode bL_law 694 = .ok (.iconst 0, 1) := by decide +kernel
theorem dL_law_695 : decode bL_law 695 = .ok (.laload, 1) := by decide +kernel
theorem dL_law_696 : decode bL_law 696 = .ok (.iload 7, 2) := by decide +kernel
theorem dL_law_698 : decode bL_law 698 = .ok (.i2l, 1) := by decide +kernel
theorem dL_law_699 : decode bL_law 699 = .ok (.lcmp, 1) := by decide +kernel
theorem dL_law_700 : decode bL_law 700 = .ok (.ifCond .eq 5, 3) := by decide +kernel
theorem dL_law_703 : decode bL_law 703 = .ok (.iconst 0, 1) := by decide +kernel
theorem dL_law_704 : decode bL_law 704 = .ok (.ireturn, 1) := by decide +kernel
theorem dL_law_705 : decode bL_law 705 = .ok (.goto 363, 3) := by decide +kernel
theorem dL_law_708 : decode bL_law 708 = .ok (.aload_n 1, 1) := by decide +kernel
theorem dL_law_709 : decode bL_law 709 = .ok (.aload_n 3, 1) := by decide +kernel
theorem dL_law_710 : decode bL_law 710 = .ok (.invokestatic 119, 3) := by decide +kernel
theorem dL_law_713 : decode bL_law 713 = .ok (.istore 6, 2) := by decide +kernel
theorem dL_law_715 : decode bL_law 715 = .ok (.aload_n 2, 1) := by decide +kernel
theorem dL_law_716 : decode bL_law 716 = .ok (.invokevirtual 121, 3) := by decide +kernel
theorem dL_law_719 : decode bL_law 719 = .ok (.lstore 7, 2) := by decide +kernel
theorem dL_law_721 : decode bL_law 721 = .ok (.aload_n 2, 1) := by decide +kernel
theorem dL_law_722 : decode bL_law 722 = .ok (.invokevirtual 86, 3) := by decide +kernel
theorem dL_law_725 : decode bL_law 725 = .ok (.iload 6, 2) := by decide +kernel
theorem dL_law_727 : decode bL_law 727 = .ok (.if_icmp .eq 5, 3) := by decide +kernel
theorem dL_law_730 : decode bL_law 730 = .ok (.iconst 0, 1) := by decide +kernel
theorem dL_law_731 : decode bL_law 731 = .ok (.ireturn, 1) := by decide +kernel
theorem dL_law_732 : decode bL_law 732 = .ok (.iload 6, 2) := by decide +kernel
theorem dL_law_734 : decode bL_law 734 = .ok (.ifCond .ne 14, 3) := by decide +kernel
theorem dL_law_737 : decode bL_law 737 = .ok (.aload_n 3, 1) := by decide +kernel
theorem dL_law_738 : decode bL_law 738 = .ok (.iconst 0, 1) := by decide +kernel
theorem dL_law_739 : decode bL_law 739 = .ok (.laload, 1) := by decide +kernel
theorem dL_law_740 : decode bL_law 740 = .ok (.lload 7, 2) := by decide +kernel
theorem dL_law_742 : decode bL_law 742 = .ok (.lcmp, 1) := by decide +kernel
theorem dL_law_743 : decode bL_law 743 = .ok (.ifCond .eq 5, 3) := by decide +kernel
theorem dL_law_746 : decode bL_law 746 = .ok (.iconst 0, 1) := by decide +kernel
theorem dL_law_747 : decode bL_law 747 = .ok (.ireturn, 1) := by decide +kernel
theorem dL_law_748 : decode bL_law 748 = .ok (.goto 320, 3) := by decide +kernel
theorem dL_law_751 : decode bL_law 751 = .ok (.aload_n 1, 1) := by decide +kernel
theorem dL_law_752 : decode bL_law 752 = .ok (.aload 4, 2) := by decide +kernel
theorem dL_law_754 : decode bL_law 754 = .ok (.invokestatic 122, 3) := by decide +kernel
theorem dL_law_757 : decode bL_law 757 = .ok (.istore 6, 2) := by decide +kernel
theorem dL_law_759 : decode bL_law 759 = .ok (.aload_n 2, 1) := by decide +kernel
theorem dL_law_760 : decode bL_law 760 = .ok (.invokevirtual 125, 3) := by decide +kernel
theorem dL_law_763 : decode bL_law 763 = .ok (.dstore 7, 2) := by decide +kernel
theorem dL_law_765 : decode bL_law 765 = .ok (.aload_n 2, 1) := by decide +kernel
theorem dL_law_766 : decode bL_law 766 = .ok (.invokevirtual 86, 3) := by decide +kernel
theorem dL_law_769 : decode bL_law 769 = .ok (.iload 6, 2) := by decide +kernel
theorem dL_law_771 : decode bL_law 771 = .ok (.if_icmp .eq 5, 3) := by decide +kernel
theorem dL_law_774 : decode bL_law 774 = .ok (.iconst 0, 1) := by decide +kernel
theorem dL_law_775 : decode bL_law 775 = .ok (.ireturn, 1) := by decide +kernel
theorem dL_law_776 : decode bL_law 776 = .ok (.iload 6, 2) := by decide +kernel
theorem dL_law_778 : decode bL_law 778 = .ok (.ifCond .ne 35, 3) := by decide +kernel
theorem dL_law_781 : decode bL_law 781 = .ok (.aload 4, 2) := by decide +kernel
theorem dL_law_783 : decode bL_law 783 = .ok (.iconst 0, 1) := by decide +kernel
theorem dL_law_784 : decode bL_law 784 = .ok (.daload, 1) := by decide +kernel
theorem dL_law_785 : decode bL_law 785 = .ok (.dload 7, 2) := by decide +kernel
theorem dL_law_787 : decode bL_law 787 = .ok (.dcmp .l, 1) := by decide +kernel
theorem dL_law_788 : decode bL_law 788 = .ok (.ifCond .eq 25, 3) := by decide +kernel
theorem dL_law_791 : decode bL_law 791 = .ok (.aload 4, 2) := by decide +kernel
theorem dL_law_793 : decode bL_law 793 = .ok (.iconst 0, 1) := by decide +kernel
theorem dL_law_794 : decode bL_law 794 = .ok (.daload, 1) := by decide +kernel
theorem dL_law_795 : decode bL_law 795 = .ok (.aload 4, 2) := by decide +kernel
theorem dL_law_797 : decode bL_law 797 = .ok (.iconst 0, 1) := by decide +kernel
theorem dL_law_798 : decode bL_law 798 = .ok (.daload, 1) := by decide +kernel
theorem dL_law_799 : decode bL_law 799 = .ok (.dcmp .l, 1) := by decide +kernel
theorem dL_law_800 : decode bL_law 800 = .ok (.ifCond .eq 11, 3) := by decide +kernel
theorem dL_law_803 : decode bL_law 803 = .ok (.dload 7, 2) := by decide +kernel
theorem dL_law_805 : decode bL_law 805 = .ok (.dload 7, 2) := by decide +kernel
theorem dL_law_807 : decode bL_law 807 = .ok (.dcmp .l, 1) := by decide +kernel
theorem dL_law_808 : decode bL_law 808 = .ok (.ifCond .ne 5, 3) := by decide +kernel
theorem dL_law_811 : decode bL_law 811 = .ok (.iconst 0, 1) := by decide +kernel
theorem dL_law_812 : decode bL_law 812 = .ok (.ireturn, 1) := by decide +kernel
theorem dL_law_813 : decode bL_law 813 = .ok (.goto 255, 3) := by decide +kernel
theorem dL_law_816 : decode bL_law 816 = .ok (.aload_n 1, 1) := by decide +kernel
theorem dL_law_817 : decode bL_law 817 = .ok (.aload_n 0, 1) := by decide +kernel
theorem dL_law_818 : decode bL_law 818 = .ok (.iload 5, 2) := by decide +kernel
theorem dL_law_820 : decode bL_law 820 = .ok (.iconst 1, 1) := by decide +kernel
theorem dL_law_821 : decode bL_law 821 = .ok (.iadd, 1) := by decide +kernel
theorem dL_law_822 : decode bL_law 822 = .ok (.iaload, 1) := by decide +kernel
theorem dL_law_823 : decode bL_law 823 = .ok (.aload_n 3, 1) := by decide +kernel
theorem dL_law_824 : decode bL_law 824 = .ok (.invokestatic 126, 3) := by decide +kernel
theorem dL_law_827 : decode bL_law 827 = .ok (.istore 6, 2) := by decide +kernel
theorem dL_law_829 : decode bL_law 829 = .ok (.aload_n 2, 1) := by decide +kernel
theorem dL_law_830 : decode bL_law 830 = .ok (.aload_n 0, 1) := by decide +kernel
theorem dL_law_831 : decode bL_law 831 = .ok (.iload 5, 2) := by decide +kernel
theorem dL_law_833 : decode bL_law 833 = .ok (.iconst 1, 1) := by decide +kernel
theorem dL_law_834 : decode bL_law 834 = .ok (.iadd, 1) := by decide +kernel
theorem dL_law_835 : decode bL_law 835 = .ok (.iaload, 1) := by decide +kernel
theorem dL_law_836 : decode bL_law 836 = .ok (.invokevirtual 128, 3) := by decide +kernel
theorem dL_law_839 : decode bL_law 839 = .ok (.lstore 7, 2) := by decide +kernel
theorem dL_law_841 : decode bL_law 841 = .ok (.aload_n 2, 1) := by decide +kernel
theorem dL_law_842 : decode bL_law 842 = .ok (.invokevirtual 86, 3) := by decide +kernel
theorem dL_law_845 : decode bL_law 845 = .ok (.iload 6, 2) := by decide +kernel
theorem dL_law_847 : decode bL_law 847 = .ok (.if_icmp .eq 5, 3) := by decide +kernel
theorem dL_law_850 : decode bL_law 850 = .ok (.iconst 0, 1) := by decide +kernel
theorem dL_law_851 : decode bL_law 851 = .ok (.ireturn, 1) := by decide +kernel
theorem dL_law_852 : decode bL_law 852 = .ok (.iload 6, 2) := by decide +kernel
theorem dL_law_854 : decode bL_law 854 = .ok (.ifCond .ne 14, 3) := by decide +kernel
theorem dL_law_857 : decode bL_law 857 = .ok (.aload_n 3, 1) := by decide +kernel
theorem dL_law_858 : decode bL_law 858 = .ok (.iconst 0, 1) := by decide +kernel
theorem dL_law_859 : decode bL_law 859 = .ok (.laload, 1) := by decide +kernel
theorem dL_law_860 : decode bL_law 860 = .ok (.lload 7, 2) := by decide +kernel
theorem dL_law_862 : decode bL_law 862 = .ok (.lcmp, 1) := by decide +kernel
theorem dL_law_863 : decode bL_law 863 = .ok (.ifCond .eq 5, 3) := by decide +kernel
theorem dL_law_866 : decode bL_law 866 = .ok (.iconst 0, 1) := by decide +kernel
theorem dL_law_867 : decode bL_law 867 = .ok (.ireturn, 1) := by decide +kernel
theorem dL_law_868 : decode bL_law 868 = .ok (.goto 200, 3) := by decide +kernel
theorem dL_law_871 : decode bL_law 871 = .ok (.aload_n 1, 1) := by decide +kernel
theorem dL_law_872 : decode bL_law 872 = .ok (.invokevirtual 129, 3) := by decide +kernel
theorem dL_law_875 : decode bL_law 875 = .ok (.dstore 6, 2) := by decide +kernel
theorem dL_law_877 : decode bL_law 877 = .ok (.aload_n 2, 1) := by decide +kernel
theorem dL_law_878 : decode bL_law 878 = .ok (.invokevirtual 132, 3) := by decide +kernel
theorem dL_law_881 : decode bL_law 881 = .ok (.dstore 8, 2) := by decide +kernel
theorem dL_law_883 : decode bL_law 883 = .ok (.dload 6, 2) := by decide +kernel
theorem dL_law_885 : decode bL_law 885 = .ok (.dload 8, 2) := by decide +kernel
theorem dL_law_887 : decode bL_law 887 = .ok (.dcmp .l, 1) := by decide +kernel
theorem dL_law_888 : decode bL_law 888 = .ok (.ifCond .eq 21, 3) := by decide +kernel
theorem dL_law_891 : decode bL_law 891 = .ok (.dload 6, 2) := by decide +kernel
theorem dL_law_893 : decode bL_law 893 = .ok (.dload 6, 2) := by decide +kernel
theorem dL_law_895 : decode bL_law 895 = .ok (.dcmp .l, 1) := by decide +kernel
theorem dL_law_896 : decode bL_law 896 = .ok (.ifCond .eq 11, 3) := by decide +kernel
theorem dL_law_899 : decode bL_law 899 = .ok (.dload 8, 2) := by decide +kernel
theorem dL_law_901 : decode bL_law 901 = .ok (.dload 8, 2) := by decide +kernel
theorem dL_law_903 : decode bL_law 903 = .ok (.dcmp .l, 1) := by decide +kernel
theorem dL_law_904 : decode bL_law 904 = .ok (.ifCond .ne 5, 3) := by decide +kernel
theorem dL_law_907 : decode bL_law 907 = .ok (.iconst 0, 1) := by decide +kernel
theorem dL_law_908 : decode bL_law 908 = .ok (.ireturn, 1) := by decide +kernel
theorem dL_law_909 : decode bL_law 909 = .ok (.goto 159, 3) := by decide +kernel
theorem dL_law_912 : decode bL_law 912 = .ok (.aload_n 1, 1) := by decide +kernel
theorem dL_law_913 : decode bL_law 913 = .ok (.aload_n 0, 1) := by decide +kernel
theorem dL_law_914 : decode bL_law 914 = .ok (.iload 5, 2) := by decide +kernel
theorem dL_law_916 : decode bL_law 916 = .ok (.iconst 1, 1) := by decide +kernel
theorem dL_law_917 : decode bL_law 917 = .ok (.iadd, 1) := by decide +kernel
theorem dL_law_918 : decode bL_law 918 = .ok (.iaload, 1) := by decide +kernel
theorem dL_law_919 : decode bL_law 919 = .ok (.aload_n 3, 1) := by decide +kernel
theorem dL_law_920 : decode bL_law 920 = .ok (.invokestatic 133, 3) := by decide +kernel
theorem dL_law_923 : decode bL_law 923 = .ok (.istore 6, 2) := by decide +kernel
theorem dL_law_925 : decode bL_law 925 = .ok (.aload_n 2, 1) := by decide +kernel
theorem dL_law_926 : decode bL_law 926 = .ok (.aload_n 0, 1) := by decide +kernel
theorem dL_law_927 : decode bL_law 927 = .ok (.iload 5, 2) := by decide +kernel
theorem dL_law_929 : decode bL_law 929 = .ok (.iconst 1, 1) := by decide +kernel
theorem dL_law_930 : decode bL_law 930 = .ok (.iadd, 1) := by decide +kernel
theorem dL_law_931 : decode bL_law 931 = .ok (.iaload, 1) := by decide +kernel
theorem dL_law_932 : decode bL_law 932 = .ok (.invokevirtual 135, 3) := by decide +kernel
theorem dL_law_935 : decode bL_law 935 = .ok (.istore 7, 2) := by decide +kernel
theorem dL_law_937 : decode bL_law 937 = .ok (.aload_n 2, 1) := by decide +kernel
theorem dL_law_938 : decode bL_law 938 = .ok (.invokevirtual 86, 3) := by decide +kernel
theorem dL_law_941 : decode bL_law 941 = .ok (.iload 6, 2) := by decide +kernel
theorem dL_law_943 : decode bL_law 943 = .ok (.if_icmp .eq 5, 3) := by decide +kernel
theorem dL_law_946 : decode bL_law 946 = .ok (.iconst 0, 1) := by decide +kernel
theorem dL_law_947 : decode bL_law 947 = .ok (.ireturn, 1) := by decide +kernel
theorem dL_law_948 : decode bL_law 948 = .ok (.iload 6, 2) := by decide +kernel
theorem dL_law_950 : decode bL_law 950 = .ok (.ifCond .ne 15, 3) := by decide +kernel
theorem dL_law_953 : decode bL_law 953 = .ok (.aload_n 3, 1) := by decide +kernel
theorem dL_law_954 : decode bL_law 954 = .ok (.iconst 0, 1) := by decide +kernel
theorem dL_law_955 : decode bL_law 955 = .ok (.laload, 1) := by decide +kernel
theorem dL_law_956 : decode bL_law 956 = .ok (.iload 7, 2) := by decide +kernel
theorem dL_law_958 : decode bL_law 958 = .ok (.i2l, 1) := by decide +kernel
theorem dL_law_959 : decode bL_law 959 = .ok (.lcmp, 1) := by decide +kernel
theorem dL_law_960 : decode bL_law 960 = .ok (.ifCond .eq 5, 3) := by decide +kernel
theorem dL_law_963 : decode bL_law 963 = .ok (.iconst 0, 1) := by decide +kernel
theorem dL_law_964 : decode bL_law 964 = .ok (.ireturn, 1) := by decide +kernel
theorem dL_law_965 : decode bL_law 965 = .ok (.goto 103, 3) := by decide +kernel
theorem dL_law_968 : decode bL_law 968 = .ok (.aload_n 1, 1) := by decide +kernel
theorem dL_law_969 : decode bL_law 969 = .ok (.aload_n 3, 1) := by decide +kernel
theorem dL_law_970 : decode bL_law 970 = .ok (.invokestatic 136, 3) := by decide +kernel
theorem dL_law_973 : decode bL_law 973 = .ok (.istore 6, 2) := by decide +kernel
theorem dL_law_975 : decode bL_law 975 = .ok (.aload_n 2, 1) := by decide +kernel
theorem dL_law_976 : decode bL_law 976 = .ok (.invokevirtual 138, 3) := by decide +kernel
theorem dL_law_979 : decode bL_law 979 = .ok (.istore 7, 2) := by decide +kernel
theorem dL_law_981 : decode bL_law 981 = .ok (.aload_n 2, 1) := by decide +kernel
theorem dL_law_982 : decode bL_law 982 = .ok (.invokevirtual 86, 3) := by decide +kernel
theorem dL_law_985 : decode bL_law 985 = .ok (.iload 6, 2) := by decide +kernel
theorem dL_law_987 : decode bL_law 987 = .ok (.if_icmp .eq 5, 3) := by decide +kernel
theorem dL_law_990 : decode bL_law 990 = .ok (.iconst 0, 1) := by decide +kernel
theorem dL_law_991 : decode bL_law 991 = .ok (.ireturn, 1) := by decide +kernel
theorem dL_law_992 : decode bL_law 992 = .ok (.iload 6, 2) := by decide +kernel
theorem dL_law_994 : decode bL_law 994 = .ok (.ifCond .ne 15, 3) := by decide +kernel
theorem dL_law_997 : decode bL_law 997 = .ok (.aload_n 3, 1) := by decide +kernel
theorem dL_law_998 : decode bL_law 998 = .ok (.iconst 0, 1) := by decide +kernel
theorem dL_law_999 : decode bL_law 999 = .ok (.laload, 1) := by decide +kernel
theorem dL_law_1000 : decode bL_law 1000 = .ok (.iload 7, 2) := by decide +kernel
theorem dL_law_1002 : decode bL_law 1002 = .ok (.i2l, 1) := by decide +kernel
theorem dL_law_1003 : decode bL_law 1003 = .ok (.lcmp, 1) := by decide +kernel
theorem dL_law_1004 : decode bL_law 1004 = .ok (.ifCond .eq 5, 3) := by decide +kernel
theorem dL_law_1007 : decode bL_law 1007 = .ok (.iconst 0, 1) := by decide +kernel
theorem dL_law_1008 : decode bL_law 1008 = .ok (.ireturn, 1) := by decide +kernel
theorem dL_law_1009 : decode bL_law 1009 = .ok (.goto 59, 3) := by decide +kernel
theorem dL_law_1012 : decode bL_law 1012 = .ok (.aload_n 1, 1) := by decide +kernel
theorem dL_law_1013 : decode bL_law 1013 = .ok (.aload_n 0, 1) := by decide +kernel
theorem dL_law_1014 : decode bL_law 1014 = .ok (.iload 5, 2) := by decide +kernel
theorem dL_law_1016 : decode bL_law 1016 = .ok (.iconst 1, 1) := by decide +kernel
theorem dL_law_1017 : decode bL_law 1017 = .ok (.iadd, 1) := by decide +kernel
theorem dL_law_1018 : decode bL_law 1018 = .ok (.iaload, 1) := by decide +kernel
theorem dL_law_1019 : decode bL_law 1019 = .ok (.aload_n 3, 1) := by decide +kernel
theorem dL_law_1020 : decode bL_law 1020 = .ok (.invokestatic 139, 3) := by decide +kernel
theorem dL_law_1023 : decode bL_law 1023 = .ok (.istore 6, 2) := by decide +kernel
theorem dL_law_1025 : decode bL_law 1025 = .ok (.aload_n 2, 1) := by decide +kernel
theorem dL_law_1026 : decode bL_law 1026 = .ok (.aload_n 0, 1) := by decide +kernel
theorem dL_law_1027 : decode bL_law 1027 = .ok (.iload 5, 2) := by decide +kernel
theorem dL_law_1029 : decode bL_law 1029 = .ok (.iconst 1, 1) := by decide +kernel
theorem dL_law_1030 : decode bL_law 1030 = .ok (.iadd, 1) := by decide +kernel
theorem dL_law_1031 : decode bL_law 1031 = .ok (.iaload, 1) := by decide +kernel
theorem dL_law_1032 : decode bL_law 1032 = .ok (.invokevirtual 141, 3) := by decide +kernel
theorem dL_law_1035 : decode bL_law 1035 = .ok (.istore 7, 2) := by decide +kernel
theorem dL_law_1037 : decode bL_law 1037 = .ok (.aload_n 2, 1) := by decide +kernel
theorem dL_law_1038 : decode bL_law 1038 = .ok (.invokevirtual 86, 3) := by decide +kernel
theorem dL_law_1041 : decode bL_law 1041 = .ok (.iload 6, 2) := by decide +kernel
theorem dL_law_1043 : decode bL_law 1043 = .ok (.if_icmp .eq 5, 3) := by decide +kernel
theorem dL_law_1046 : decode bL_law 1046 = .ok (.iconst 0, 1) := by decide +kernel
theorem dL_law_1047 : decode bL_law 1047 = .ok (.ireturn, 1) := by decide +kernel
theorem dL_law_1048 : decode bL_law 1048 = .ok (.iload 6, 2) := by decide +kernel
theorem dL_law_1050 : decode bL_law 1050 = .ok (.ifCond .ne 15, 3) := by decide +kernel
theorem dL_law_1053 : decode bL_law 1053 = .ok (.aload_n 3, 1) := by decide +kernel
theorem dL_law_1054 : decode bL_law 1054 = .ok (.iconst 0, 1) := by decide +kernel
theorem dL_law_1055 : decode bL_law 1055 = .ok (.laload, 1) := by decide +kernel
theorem dL_law_1056 : decode bL_law 1056 = .ok (.iload 7, 2) := by decide +kernel
theorem dL_law_1058 : decode bL_law 1058 = .ok (.i2l, 1) := by decide +kernel
theorem dL_law_1059 : decode bL_law 1059 = .ok (.lcmp, 1) := by decide +kernel
theorem dL_law_1060 : decode bL_law 1060 = .ok (.ifCond .eq 5, 3) := by decide +kernel
theorem dL_law_1063 : decode bL_law 1063 = .ok (.iconst 0, 1) := by decide +kernel
theorem dL_law_1064 : decode bL_law 1064 = .ok (.ireturn, 1) := by decide +kernel
theorem dL_law_1065 : decode bL_law 1065 = .ok (.goto 3, 3) := by decide +kernel
theorem dL_law_1068 : decode bL_law 1068 = .ok (.iinc 5 5, 3) := by decide +kernel
theorem dL_law_1071 : decode bL_law 1071 = .ok (.goto (-1043), 3) := by decide +kernel
theorem dL_law_1074 : decode bL_law 1074 = .ok (.iconst 1, 1) := by decide +kernel
theorem dL_law_1075 : decode bL_law 1075 = .ok (.ireturn, 1) := by decide +kernel
end
section
/-! THE STATE: a map a field; objects of a class by number. Keys: 1000 + 100 * class + place of the field. A kind below 1000 is a class's objects; from 1000 on the array that this field holds. -/
abbrev St : Type := (Nat → Nat → Int32) × (Nat → Nat → Nat → Int32) × (Nat → Nat → Nat → Int64) × (Nat → Nat → Nat → UInt64) × (Nat → Nat → Nat) × (Nat → Nat → Int64) × (Nat → Nat → UInt64)
def gI (S : St) (k i : Nat) : Int32 := S.1 k i
def gA (S : St) (k i j : Nat) : Int32 := S.2.1 k i j
def gJ (S : St) (k i j : Nat) : Int64 := S.2.2.1 k i j
def gD (S : St) (k i j : Nat) : UInt64 := S.2.2.2.1 k i j
def gR (S : St) (k i : Nat) : Nat := S.2.2.2.2.1 k i
def gL (S : St) (k i : Nat) : Int64 := S.2.2.2.2.2.1 k i
def gF (S : St) (k i : Nat) : UInt64 := S.2.2.2.2.2.2 k i
def sI (S : St) (k i : Nat) (v : Int32) : St := (fun a b => if a = k ∧ b = i then v else S.1 a b, S.2)
def sA (S : St) (k i j : Nat) (v : Int32) : St := (S.1, fun a b c => if a = k ∧ b = i ∧ c = j then v else S.2.1 a b c, S.2.2)
def sJ (S : St) (k i j : Nat) (v : Int64) : St := (S.1, S.2.1, fun a b c => if a = k ∧ b = i ∧ c = j then v else S.2.2.1 a b c, S.2.2.2)
def sD (S : St) (k i j : Nat) (v : UInt64) : St := (S.1, S.2.1, S.2.2.1, fun a b c => if a = k ∧ b = i ∧ c = j then v else S.2.2.2.1 a b c, S.2.2.2.2)
def sR (S : St) (k i : Nat) (v : Nat) : St := (S.1, S.2.1, S.2.2.1, S.2.2.2.1, fun a b => if a = k ∧ b = i then v else S.2.2.2.2.1 a b, S.2.2.2.2.2)
def sL (S : St) (k i : Nat) (v : Int64) : St := (S.1, S.2.1, S.2.2.1, S.2.2.2.1, S.2.2.2.2.1, fun a b => if a = k ∧ b = i then v else S.2.2.2.2.2.1 a b, S.2.2.2.2.2.2)
def sF (S : St) (k i : Nat) (v : UInt64) : St := (S.1, S.2.1, S.2.2.1, S.2.2.2.1, S.2.2.2.2.1, S.2.2.2.2.2.1, fun a b => if a = k ∧ b = i then v else S.2.2.2.2.2.2 a b)
-- how many cells a Cells object has
def cellsN (i : Nat) : Nat := if i < 12 then (if i % 2 = 0 then 16 else 6) else if i = 12 then 3 else 1
/-- how many objects of a kind there are -/
def cnt : Nat → Nat
  | 0 => 6 | 1 => 14 | 2 => 1 | 3 => 8 | 4 => 6 | 6 => 1 | 7 => 1 | 8 => 1 | 9 => 1
  | 1002 => 6 | 1003 => 6 | 1100 => 14 | 1101 => 14 | 1201 => 1 | 1202 => 1 | 1400 => 6 | 1401 => 6 | 1402 => 6 | 1403 => 6 | 1602 => 1 | 1700 => 1 | 1800 => 1 | 1801 => 1 | 1802 => 1
  | 1900 => 1 | 1901 => 1 | 1902 => 1 | 1903 => 1 | 1904 => 1 | 1905 => 1 | 1906 => 1 | 1907 => 1 | 1908 => 1 | 1910 => 1 | 1913 => 1 | 1915 => 1 | 1916 => 1 | 1917 => 1 | 1918 => 1 | 1919 => 1 | 1922 => 1 | 1923 => 1 | 1924 => 1 | 1925 => 1 | 1926 => 1 | 1927 => 1 | 1928 => 1 | 1929 => 1 | 1940 => 1
  | _ => 0
/-- an array's type and length: 0 int, 1 long, 2 double, 3 boolean, 10 + c references to class c -/
def ad : Nat → Nat → Option (Nat × Nat)
  | 1002, _ => some (0, 8) | 1003, _ => some (0, 8) | 1100, i => some (1, cellsN i) | 1101, i => some (2, cellsN i) | 1201, _ => some (0, 16) | 1202, _ => some (13, 8)
  | 1400, _ => some (0, 6) | 1401, _ => some (0, 60) | 1402, _ => some (0, 60) | 1403, _ => some (0, 60) | 1602, _ => some (10, 6) | 1700, _ => some (0, 64) | 1800, _ => some (14, 6) | 1801, _ => some (0, 8) | 1802, _ => some (0, 3)
  | 1900, _ => some (0, 36) | 1901, _ => some (0, 6) | 1902, _ => some (0, 6) | 1903, _ => some (0, 6) | 1904, _ => some (0, 360) | 1905, _ => some (0, 6) | 1906, _ => some (0, 8) | 1907, _ => some (0, 64) | 1908, _ => some (1, 3) | 1910, _ => some (0, 3) | 1913, _ => some (0, 16)
  | 1915, _ => some (0, 60) | 1916, _ => some (0, 60) | 1917, _ => some (0, 60) | 1918, _ => some (3, 60) | 1919, _ => some (3, 60) | 1922, _ => some (1, 200) | 1923, _ => some (2, 200) | 1924, _ => some (0, 60) | 1925, _ => some (1, 36) | 1926, _ => some (2, 36)
  | 1927, _ => some (0, 6) | 1928, _ => some (0, 6) | 1929, _ => some (0, 6) | 1940, _ => some (0, 240)
  | _, _ => none
/-- a class's fields in the order of its T: how the value is read (0 int; 1 the reference of the same number; 2, 3 twice the number, and one more; 4, 5, 6 the number 0, 12, 13; 7 a reference by the state; 8 long; 9 double), its key, the kind that a reference names -/
def desc : Nat → List (Nat × Nat × Nat)
  | 0 => [(2, 0, 1), (3, 0, 1), (1, 0, 1002), (1, 0, 1003), (7, 1004, 4), (0, 1005, 0), (0, 1006, 0)]
  | 1 => [(1, 0, 1100), (1, 0, 1101), (0, 1102, 0)]
  | 2 => [(4, 0, 1800), (1, 0, 1201), (1, 0, 1202), (7, 1203, 4), (7, 1204, 3), (0, 1205, 0), (0, 1206, 0), (0, 1207, 0)]
  | 3 => [(0, 1300, 0), (0, 1301, 0), (0, 1302, 0), (0, 1303, 0), (0, 1304, 0), (0, 1305, 0)]
  | 4 => [(1, 0, 1400), (1, 0, 1401), (1, 0, 1402), (1, 0, 1403), (0, 1404, 0), (0, 1405, 0), (0, 1406, 0), (0, 1407, 0)]
  | 6 => [(4, 0, 1800), (4, 0, 1801), (4, 0, 1602), (4, 0, 7), (5, 0, 1), (6, 0, 1), (0, 1606, 0), (0, 1607, 0)]
  | 7 => [(1, 0, 1700)]
  | 8 => [(1, 0, 1800), (1, 0, 1801), (1, 0, 1802), (1, 0, 2), (1, 0, 6), (0, 1805, 0), (0, 1806, 0), (0, 1807, 0), (0, 1808, 0), (0, 1809, 0)]
  | 9 => [(1, 0, 1900), (1, 0, 1901), (1, 0, 1902), (1, 0, 1903), (1, 0, 1904), (1, 0, 1905), (1, 0, 1906), (1, 0, 1907), (1, 0, 1908), (9, 1909, 0), (1, 0, 1910), (0, 1911, 0), (0, 1912, 0), (1, 0, 1913), (0, 1914, 0), (1, 0, 1915), (1, 0, 1916), (1, 0, 1917), (1, 0, 1918), (1, 0, 1919), (0, 1920, 0), (0, 1921, 0), (1, 0, 1922), (1, 0, 1923), (1, 0, 1924), (1, 0, 1925), (1, 0, 1926), (1, 0, 1927), (1, 0, 1928), (1, 0, 1929), (0, 1930, 0), (0, 1931, 0), (0, 1932, 0), (0, 1933, 0), (0, 1934, 0), (0, 1935, 0), (0, 1936, 0), (8, 1937, 0), (9, 1938, 0), (0, 1939, 0), (1, 0, 1940)]
  | _ => []
def fval (ρ : Nat → Nat → Nat) (S : St) (i : Nat) (q : Nat × Nat × Nat) : Value := match q.1 with
  | 0 => .int (gI S q.2.1 i)
  | 1 => .ref (ρ q.2.2 i)
  | 2 => .ref (ρ q.2.2 (2 * i))
  | 3 => .ref (ρ q.2.2 (2 * i + 1))
  | 4 => .ref (ρ q.2.2 0)
  | 5 => .ref (ρ q.2.2 12)
  | 6 => .ref (ρ q.2.2 13)
  | 7 => .ref (ρ q.2.2 (gR S q.2.1 i))
  | 8 => .long (gL S q.2.1 i)
  | _ => .double (gF S q.2.1 i)
def arrC (ρ : Nat → Nat → Nat) (S : St) (k i t n : Nat) : (Nat → Int32) ⊕ (Nat → Int64) ⊕ (Nat → UInt32) ⊕ (Nat → UInt64) ⊕ (Nat → Option Nat) := match t with
  | 0 => .inl (gA S k i)
  | 1 => .inr (.inl (gJ S k i))
  | 2 => .inr (.inr (.inr (.inl (gD S k i))))
  | 3 => .inl (gA S k i)
  | t => .inr (.inr (.inr (.inr (fun j => if j < n then some (ρ (t - 10) j) else none))))
def cellOf (ca : Nat → ClassId) (ρ : Nat → Nat → Nat) (S : St) (k i : Nat) : va_E := match ad k i with
  | none => .inr (k, (desc k).map (fval ρ S i))
  | some (t, n) => .inl (ca t, n, arrC ρ S k i t n)
abbrev classes : List vw_C := [(R0, T0, 7), (R1, T1, 3), (R2, T2, 8), (R3, T3, 6), (R4, T4, 8), (R5, T5, 0), (R6, T6, 8), (R7, T7, 1), (R8, T8, 10), (R9, T9, 41)]
abbrev tys (ca : Nat → ClassId) : List (ClassId × FieldType) := [(ca 0, .int), (ca 1, .long), (ca 2, .double), (ca 3, .boolean), (ca 10, .object "StackForge$Call"), (ca 13, .object "StackForge$Frame"), (ca 14, .object "StackForge$Function")]
/-- the kinds of a world: true the class's, false the reference's -/
def unit (u : Bool) (k : Nat) : Bool := if u then (decide (k < 9) || (decide (1000 ≤ k) && decide (k < 1900))) else (decide (k = 9) || (decide (1900 ≤ k) && decide (k < 2000)))
def pic (u : Bool) (D : va_G) (ca : Nat → ClassId) (ρ : Nat → Nat → Nat) (S : St) (H : Heap) : Prop := ∀ k i, unit u k = true → i < cnt k → va_at D classes (ρ k i, cellOf ca ρ S k i) H
def Ap (u : Bool) (ρ : Nat → Nat → Nat) : Prop := ∀ k i k' i', unit u k = true → i < cnt k → unit u k' = true → i' < cnt k' → ρ k i = ρ k' i' → k = k' ∧ i = i'
def reg (u : Bool) (ρ : Nat → Nat → Nat) (q : Nat) : Prop := ∃ k i, unit u k = true ∧ i < cnt k ∧ q = ρ k i
def Ar (u : Bool) (ρ : Nat → Nat → Nat) (sz : Nat) : Nat → Prop := fun q => reg u ρ q ∨ sz ≤ q
theorem desc_ok (k : Nat) : ∀ q ∈ desc k, (q.1 = 0 ∨ 7 ≤ q.1) → (q.2.1 - 1000) / 100 = k := by
  match k with
  | 0 | 1 | 2 | 3 | 4 | 6 | 7 | 8 | 9 => decide
  | 5 => decide
  | k + 10 => intro q hq; simp [desc] at hq
theorem pic.put {u : Bool} {D : va_G} {ca : Nat → ClassId} {ρ : Nat → Nat → Nat} {S S' : St} {H H' : Heap} (hA : Ap u ρ) (hP : pic u D ca ρ S H) {k i : Nat} (hu : unit u k = true) (hi : i < cnt k) (he : va_at D classes (ρ k i, cellOf ca ρ S' k i) H')
    (oq : ∀ q : Nat, q ≠ ρ k i → H'[q]? = H[q]?) (same : ∀ k' i', ¬ (k' = k ∧ i' = i) → cellOf ca ρ S' k' i' = cellOf ca ρ S k' i') : pic u D ca ρ S' H' := by
  intro k' i' hu' hi'
  by_cases h : k' = k ∧ i' = i
  · obtain ⟨rfl, rfl⟩ := h
    exact he
  · rw [same k' i' h]
    refine (hP k' i' hu' hi').kept (oq _ fun e => h ?_)
    exact hA k' i' k i hu' hi' hu hi e
theorem cell_congr {ca : Nat → ClassId} {ρ : Nat → Nat → Nat} {S S' : St} {k i : Nat} (h1 : ∀ q ∈ desc k, fval ρ S' i q = fval ρ S i q) (h2 : gA S' k i = gA S k i) (h3 : gJ S' k i = gJ S k i) (h4 : gD S' k i = gD S k i) : cellOf ca ρ S' k i = cellOf ca ρ S k i := by
  unfold cellOf
  split
  · rw [List.map_congr_left h1]
  · rename_i t n _
    have : arrC ρ S' k i t n = arrC ρ S k i t n := by
      unfold arrC
      split <;> simp only [h2, h3, h4]
    rw [this]
theorem kOf {q : Nat × Nat × Nat} {k key : Nat} (hq : q ∈ desc k) (ht : q.1 = 0 ∨ 7 ≤ q.1) (e : q.2.1 = key) : k = (key - 1000) / 100 := by rw [← e]; exact (desc_ok k q hq ht).symm
theorem same_I {ca : Nat → ClassId} {ρ : Nat → Nat → Nat} {S : St} {key i : Nat} {v : Int32} (k' i' : Nat) (h : ¬ (k' = (key - 1000) / 100 ∧ i' = i)) : cellOf ca ρ (sI S key i v) k' i' = cellOf ca ρ S k' i' := by
  refine cell_congr (fun q hq => ?_) rfl rfl rfl
  unfold fval
  split <;> first | rfl | skip
  rename_i e
  show Value.int (if q.2.1 = key ∧ i' = i then v else gI S q.2.1 i') = _
  rw [if_neg fun z => h ⟨kOf hq (Or.inl e) z.1, z.2⟩]
theorem same_R {ca : Nat → ClassId} {ρ : Nat → Nat → Nat} {S : St} {key i : Nat} {v : Nat} (k' i' : Nat) (h : ¬ (k' = (key - 1000) / 100 ∧ i' = i)) : cellOf ca ρ (sR S key i v) k' i' = cellOf ca ρ S k' i' := by
  refine cell_congr (fun q hq => ?_) rfl rfl rfl
  unfold fval
  split <;> first | rfl | skip
  rename_i e
  show Value.ref (ρ q.2.2 (if q.2.1 = key ∧ i' = i then v else gR S q.2.1 i')) = _
  rw [if_neg fun z => h ⟨kOf hq (Or.inr (by omega)) z.1, z.2⟩]
theorem same_L {ca : Nat → ClassId} {ρ : Nat → Nat → Nat} {S : St} {key i : Nat} {v : Int64} (k' i' : Nat) (h : ¬ (k' = (key - 1000) / 100 ∧ i' = i)) : cellOf ca ρ (sL S key i v) k' i' = cellOf ca ρ S k' i' := by
  refine cell_congr (fun q hq => ?_) rfl rfl rfl
  unfold fval
  split <;> first | rfl | skip
  rename_i e
  show Value.long (if q.2.1 = key ∧ i' = i then v else gL S q.2.1 i') = _
  rw [if_neg fun z => h ⟨kOf hq (Or.inr (by omega)) z.1, z.2⟩]
theorem desc9 (k : Nat) : ∀ q ∈ desc k, q.1 ≤ 9 := by
  match k with
  | 0 | 1 | 2 | 3 | 4 | 6 | 7 | 8 | 9 => decide
  | 5 => decide
  | k + 10 => intro q hq; simp [desc] at hq
theorem same_F {ca : Nat → ClassId} {ρ : Nat → Nat → Nat} {S : St} {key i : Nat} {v : UInt64} (k' i' : Nat) (h : ¬ (k' = (key - 1000) / 100 ∧ i' = i)) : cellOf ca ρ (sF S key i v) k' i' = cellOf ca ρ S k' i' := by
  refine cell_congr (fun q hq => ?_) rfl rfl rfl
  unfold fval
  split <;> first | rfl | skip
  rename_i e0 e1 e2 e3 e4 e5 e6 e7 e8
  have n0 : ¬ q.1 = 0 := e0
  have n1 : ¬ q.1 = 1 := e1
  have n2 : ¬ q.1 = 2 := e2
  have n3 : ¬ q.1 = 3 := e3
  have n4 : ¬ q.1 = 4 := e4
  have n5 : ¬ q.1 = 5 := e5
  have n6 : ¬ q.1 = 6 := e6
  show Value.double (if q.2.1 = key ∧ i' = i then v else gF S q.2.1 i') = _
  have h9 := desc9 k' q hq
  rw [if_neg fun z => h ⟨kOf hq (Or.inr (by omega)) z.1, z.2⟩]
theorem same_A {ca : Nat → ClassId} {ρ : Nat → Nat → Nat} {S : St} {key i j : Nat} {v : Int32} (k' i' : Nat) (h : ¬ (k' = key ∧ i' = i)) : cellOf ca ρ (sA S key i j v) k' i' = cellOf ca ρ S k' i' := by
  refine cell_congr (fun q _ => rfl) (funext fun c => ?_) rfl rfl
  show (if k' = key ∧ i' = i ∧ c = j then v else gA S k' i' c) = _
  rw [if_neg fun z => h ⟨z.1, z.2.1⟩]
theorem same_J {ca : Nat → ClassId} {ρ : Nat → Nat → Nat} {S : St} {key i j : Nat} {v : Int64} (k' i' : Nat) (h : ¬ (k' = key ∧ i' = i)) : cellOf ca ρ (sJ S key i j v) k' i' = cellOf ca ρ S k' i' := by
  refine cell_congr (fun q _ => rfl) rfl (funext fun c => ?_) rfl
  show (if k' = key ∧ i' = i ∧ c = j then v else gJ S k' i' c) = _
  rw [if_neg fun z => h ⟨z.1, z.2.1⟩]
theorem same_D {ca : Nat → ClassId} {ρ : Nat → Nat → Nat} {S : St} {key i j : Nat} {v : UInt64} (k' i' : Nat) (h : ¬ (k' = key ∧ i' = i)) : cellOf ca ρ (sD S key i j v) k' i' = cellOf ca ρ S k' i' := by
  refine cell_congr (fun q _ => rfl) rfl rfl (funext fun c => ?_)
  show (if k' = key ∧ i' = i ∧ c = j then v else gD S k' i' c) = _
  rw [if_neg fun z => h ⟨z.1, z.2.1⟩]
theorem sA_row (S : St) (k i j : Nat) (v : Int32) : gA (sA S k i j v) k i = upd (gA S k i) j v := by
  funext c
  show (if k = k ∧ i = i ∧ c = j then v else gA S k i c) = if c = j then v else gA S k i c
  simp
theorem sJ_row (S : St) (k i j : Nat) (v : Int64) : gJ (sJ S k i j v) k i = vp_updL (gJ S k i) j v := by
  funext c
  show (if k = k ∧ i = i ∧ c = j then v else gJ S k i c) = if c = j then v else gJ S k i c
  simp
theorem sD_row (S : St) (k i j : Nat) (v : UInt64) : gD (sD S k i j v) k i = vf_upd (gD S k i) j v := by
  funext c
  show (if k = k ∧ i = i ∧ c = j then v else gD S k i c) = if c = j then v else gD S k i c
  simp
/-- no key stands twice in a class's fields -/
theorem desc_nd (k : Nat) : ∀ (a b : Nat) (p q : Nat × Nat × Nat), (desc k)[a]? = some p → (desc k)[b]? = some q → (p.1 = 0 ∨ 7 ≤ p.1) → p.2.1 = q.2.1 → (q.1 = 0 ∨ 7 ≤ q.1) → a = b := by
  have key : ((List.range 41).all fun a => (List.range 41).all fun b => match (desc k)[a]?, (desc k)[b]? with
      | some p, some q => decide (¬ ((p.1 = 0 ∨ 7 ≤ p.1) ∧ p.2.1 = q.2.1 ∧ (q.1 = 0 ∨ 7 ≤ q.1)) ∨ a = b)
      | _, _ => true) = true ∧ (desc k).length ≤ 41 := by
    match k with
    | 0 | 1 | 2 | 3 | 4 | 5 | 6 | 7 | 8 | 9 => decide +kernel
    | k + 10 => simp [desc]
  intro a b p q h1 h2 t1 e t2
  have la := (List.getElem?_eq_some_iff.mp h1).1
  have lb := (List.getElem?_eq_some_iff.mp h2).1
  have := List.all_eq_true.mp (List.all_eq_true.mp key.1 a (List.mem_range.mpr (by omega))) b (List.mem_range.mpr (by omega))
  rw [h1, h2] at this
  have this := of_decide_eq_true this
  rcases this with h | h
  · exact absurd ⟨t1, e, t2⟩ h
  · exact h
/-- one field of an object written -/
theorem cell_set {ca : Nat → ClassId} {ρ : Nat → Nat → Nat} {S S' : St} {k i a : Nat} {v : Value} (hn : ad k i = none) (hv : ∀ q, (desc k)[a]? = some q → fval ρ S' i q = v) (ho : ∀ b q, (desc k)[b]? = some q → b ≠ a → fval ρ S' i q = fval ρ S i q) :
    cellOf ca ρ S' k i = .inr (k, ((desc k).map (fval ρ S i)).set a v) := by
  unfold cellOf
  rw [hn]
  have : (desc k).map (fval ρ S' i) = ((desc k).map (fval ρ S i)).set a v := by
    apply List.ext_getElem?
    intro b
    by_cases hb : b = a
    · subst hb
      rw [List.getElem?_set]
      simp only [List.getElem?_map, List.length_map]
      cases hq : (desc k)[b]? with
      | none =>
        have := List.getElem?_eq_none_iff.mp hq
        simp; omega
      | some q =>
        have := (List.getElem?_eq_some_iff.mp hq).1
        simp [hv q hq, this]
    · rw [List.getElem?_set_ne (Ne.symm hb)]
      simp only [List.getElem?_map]
      cases hq : (desc k)[b]? with
      | none => rfl
      | some q => simp [ho b q hq hb]
  rw [this]
theorem set_I {ca : Nat → ClassId} {ρ : Nat → Nat → Nat} {S : St} {k i a key z : Nat} {v : Int32} (hn : ad k i = none) (ha : (desc k)[a]? = some (0, key, z)) : cellOf ca ρ (sI S key i v) k i = .inr (k, ((desc k).map (fval ρ S i)).set a (.int v)) := by
  refine cell_set hn (fun q hq => ?_) (fun b q hq hb => ?_)
  · cases ha.symm.trans hq
    show Value.int (if key = key ∧ i = i then v else _) = _
    simp
  · unfold fval
    split <;> first | rfl | skip
    rename_i e
    show Value.int (if q.2.1 = key ∧ i = i then v else gI S q.2.1 i) = _
    rw [if_neg fun w => hb (desc_nd k b a q _ hq ha (Or.inl e) w.1 (Or.inl rfl))]
theorem set_R {ca : Nat → ClassId} {ρ : Nat → Nat → Nat} {S : St} {k i a key z : Nat} {v : Nat} (hn : ad k i = none) (ha : (desc k)[a]? = some (7, key, z)) : cellOf ca ρ (sR S key i v) k i = .inr (k, ((desc k).map (fval ρ S i)).set a (.ref (ρ z v))) := by
  refine cell_set hn (fun q hq => ?_) (fun b q hq hb => ?_)
  · cases ha.symm.trans hq
    show Value.ref (ρ z (if key = key ∧ i = i then v else _)) = _
    simp
  · unfold fval
    split <;> first | rfl | skip
    rename_i e
    show Value.ref (ρ q.2.2 (if q.2.1 = key ∧ i = i then v else gR S q.2.1 i)) = _
    rw [if_neg fun w => hb (desc_nd k b a q _ hq ha (Or.inr (by omega)) w.1 (Or.inr (by show 7 ≤ 7; decide)))]
theorem set_L {ca : Nat → ClassId} {ρ : Nat → Nat → Nat} {S : St} {k i a key z : Nat} {v : Int64} (hn : ad k i = none) (ha : (desc k)[a]? = some (8, key, z)) : cellOf ca ρ (sL S key i v) k i = .inr (k, ((desc k).map (fval ρ S i)).set a (.long v)) := by
  refine cell_set hn (fun q hq => ?_) (fun b q hq hb => ?_)
  · cases ha.symm.trans hq
    show Value.long (if key = key ∧ i = i then v else _) = _
    simp
  · unfold fval
    split <;> first | rfl | skip
    rename_i e
    show Value.long (if q.2.1 = key ∧ i = i then v else gL S q.2.1 i) = _
    rw [if_neg fun w => hb (desc_nd k b a q _ hq ha (Or.inr (by omega)) w.1 (Or.inr (by show 7 ≤ 8; decide)))]
theorem set_F {ca : Nat → ClassId} {ρ : Nat → Nat → Nat} {S : St} {k i a key z : Nat} {v : UInt64} (hn : ad k i = none) (ha : (desc k)[a]? = some (9, key, z)) : cellOf ca ρ (sF S key i v) k i = .inr (k, ((desc k).map (fval ρ S i)).set a (.double v)) := by
  refine cell_set hn (fun q hq => ?_) (fun b q hq hb => ?_)
  · cases ha.symm.trans hq
    show Value.double (if key = key ∧ i = i then v else _) = _
    simp
  · unfold fval
    split <;> first | rfl | skip
    rename_i e0 e1 e2 e3 e4 e5 e6 e7 e8
    have n0 : ¬ q.1 = 0 := e0
    have n1 : ¬ q.1 = 1 := e1
    have n2 : ¬ q.1 = 2 := e2
    have n3 : ¬ q.1 = 3 := e3
    have n4 : ¬ q.1 = 4 := e4
    have n5 : ¬ q.1 = 5 := e5
    have n6 : ¬ q.1 = 6 := e6
    have h9 := desc9 k q (List.mem_of_getElem? hq)
    show Value.double (if q.2.1 = key ∧ i = i then v else gF S q.2.1 i) = _
    rw [if_neg fun w => hb (desc_nd k b a q _ hq ha (Or.inr (by omega)) w.1 (Or.inr (by show 7 ≤ 9; decide)))]
end
section
def PreU (u : Bool) (D : va_G) (ca : Nat → ClassId) (ρ : Nat → Nat → Nat) (sz : Nat) (S : St) (U : State) : Prop := U.heap.size = sz ∧ Tb U ∧ va_K D classes (tys ca) U ∧ pic u D ca ρ S U.heap
def PostU (u : Bool) (D : va_G) (ca : Nat → ClassId) (ρ : Nat → Nat → Nat) (S : St) (t : State) : Prop := pic u D ca ρ S t.heap
def Cx (u : Bool) (p : Program) (l : Launch) (s : State) (m : MethodId) (meth : Method) (c : Code) (own : String) (cc : ByteArray) (nL : Nat) (D : va_G) (ca : Nat → ClassId) (ρ : Nat → Nat → Nat) : Prop :=
  p.tables.exec = Jvm.exec ∧ c.code = cc ∧ c.maxLocals = nL ∧ s.vm.findClass own = some m.cls ∧ Tb s ∧ va_K D classes (tys ca) s ∧ Ap u ρ ∧ meth.locks = false
/-- THE WALK'S JUDGEMENT: from the frame at pc with these locals and this stack, the world being S, the machine comes to a state with Q -/
def wm (u : Bool) (p : Program) (l : Launch) (e : Env) (R : Room) (s : State) (m : MethodId) (args : Array Value) (below : List Frame) (meth : Method) (c : Code) (D : va_G) (ca : Nat → ClassId) (ρ : Nat → Nat → Nat) (nL cells slots : Nat) (Q : State → Prop) (pc : Nat) (ls : List (Nat × Value)) (st : List Value) (S : St) : Prop :=
  ∀ (H : Heap) (locs : List Loc) (la : Array Slot), pic u D ca ρ S H → va_S (Ar u ρ s.heap.size) s.heap H locs → lv_has la nL ls → W p l e R s m args below meth c H locs cells slots Q (F0 m pc la st)
abbrev qi (u : Bool) (below : List Frame) (args : Array Value) (s : State) (D : va_G) (ca : Nat → ClassId) (ρ : Nat → Nat → Nat) (mc ms : Nat) (Qm : Int32 → St → Prop) : State → Prop := MQ below (va_Qi Qm (PostU u D ca ρ) (Ar u ρ s.heap.size)) args s mc ms (Ar u ρ s.heap.size)
abbrev ql (u : Bool) (below : List Frame) (args : Array Value) (s : State) (D : va_G) (ca : Nat → ClassId) (ρ : Nat → Nat → Nat) (mc ms : Nat) (Qm : Int64 → St → Prop) : State → Prop := MQ below (va_Ql Qm (PostU u D ca ρ) (Ar u ρ s.heap.size)) args s mc ms (Ar u ρ s.heap.size)
abbrev qd (u : Bool) (below : List Frame) (args : Array Value) (s : State) (D : va_G) (ca : Nat → ClassId) (ρ : Nat → Nat → Nat) (mc ms : Nat) (Qm : UInt64 → St → Prop) : State → Prop := MQ below (va_Qd Qm (PostU u D ca ρ) (Ar u ρ s.heap.size)) args s mc ms (Ar u ρ s.heap.size)
abbrev qv (u : Bool) (below : List Frame) (args : Array Value) (s : State) (D : va_G) (ca : Nat → ClassId) (ρ : Nat → Nat → Nat) (mc ms : Nat) (Qm : St → Prop) : State → Prop := MQ below (va_Qv Qm (PostU u D ca ρ) (Ar u ρ s.heap.size)) args s mc ms (Ar u ρ s.heap.size)
def jushr (x y : Int32) : Int32 := (x.toUInt32 >>> (y.toUInt32 &&& Int32.toUInt32 31)).toInt32
def jlushr (x : Int64) (y : Int32) : Int64 := (x.toUInt64 >>> (y.toInt64.toUInt64 &&& Int64.toUInt64 63)).toInt64
def jlshl (x : Int64) (y : Int32) : Int64 := x <<< (y.toInt64 &&& 63)
def jlshr (x : Int64) (y : Int32) : Int64 := x >>> (y.toInt64 &&& 63)
theorem met_of_wm {u : Bool} {l : Launch} {y : MethodName} {b : ByteArray} {mL : Nat} {ret : Option FieldType} {rm : Room} {As : List Value} {ls0 : List (Nat × Value)} {D : va_G} {ca : Nat → ClassId} {ρ : Nat → Nat → Nat} {sz : Nat} {S : St} {Qc : Array Value → State → Outcome → State → Prop} {mc ms : Nat} {free : Addr → Prop} {own : String} (hp : plainName y.cls = true) (hown : y.cls = own) (hAp : Ap u ρ) (hlen : (lg_sl As).length ≤ mL) (hls : lv_args 0 As = ls0)
    (k : ∀ (p : Program) (e : Env) (s : State) (m : MethodId) (args : Array Value) (below : List Frame) (meth : Method) (c : Code), Cx u p l s m meth c own b mL D ca ρ → meth.sig.returnType = ret → s.heap.size = sz → wm u p l e rm s m args below meth c D ca ρ mL 0 0 (MQ below Qc args s mc ms free) 0 ls0 [] S) : Met l y [Cond.code y b mL ret] rm (va_Pc As (PreU u D ca ρ sz S)) Qc mc ms free := by
  refine Met.ofW (cc := b) (maxL := mL) (ret := ret) hp rfl ?_
  intro p e s m args below meth c s₁ B hml hv
  obtain ⟨rfl, hsz, hT, hK, hP⟩ := hv
  have hown' : s.vm.findClass own = some m.cls := hown ▸ findClass_of_methodNamed B.named
  have hl := lv_entry As (n := mL) hlen
  rw [lg_entry_eq]
  rw [hls] at hl
  exact k p e s m As.toArray below meth c ⟨B.exec, B.bytes, hml, hown', hT, hK, hAp, B.notSynchronized⟩ B.returns hsz s.heap [] _ hP va_S.rf hl
section ROWS
variable {u : Bool} {p : Program} {l : Launch} {e : Env} {R : Room} {s : State} {m : MethodId} {args : Array Value} {below : List Frame} {meth : Method} {c : Code} {D : va_G} {ca : Nat → ClassId} {ρ : Nat → Nat → Nat} {nL cells slots : Nat} {Q : State → Prop} {pc : Nat} {ls : List (Nat × Value)} {st : List Value} {S : St} {own : String} {cc : ByteArray}
theorem r_iconst (C : Cx u p l s m meth c own cc nL D ca ρ) {n : Int} {v : Int32} (hd : decode cc pc = .ok (.iconst n, 1)) (hv : Int32.ofInt n = v) (k : wm u p l e R s m args below meth c D ca ρ nL cells slots Q (pc + 1) ls (.int v :: st) S) : wm u p l e R s m args below meth c D ca ρ nL cells slots Q (pc) ls st S := fun H locs la h1 h2 h3 => lv_iconst C.1 C.2.1 hd hv (k H locs la h1 h2 h3)
theorem r_bipush (C : Cx u p l s m meth c own cc nL D ca ρ) {n : Int} {v : Int32} (hd : decode cc pc = .ok (.bipush n, 2)) (hv : (Int8.ofInt n).toInt32 = v) (k : wm u p l e R s m args below meth c D ca ρ nL cells slots Q (pc + 2) ls (.int v :: st) S) : wm u p l e R s m args below meth c D ca ρ nL cells slots Q (pc) ls st S := fun H locs la h1 h2 h3 => lv_bipush C.1 C.2.1 hd hv (k H locs la h1 h2 h3)
theorem r_sipush (C : Cx u p l s m meth c own cc nL D ca ρ) {n : Int} {v : Int32} (hd : decode cc pc = .ok (.sipush n, 3)) (hv : (Int16.ofInt n).toInt32 = v) (k : wm u p l e R s m args below meth c D ca ρ nL cells slots Q (pc + 3) ls (.int v :: st) S) : wm u p l e R s m args below meth c D ca ρ nL cells slots Q (pc) ls st S := fun H locs la h1 h2 h3 => lv_sipush C.1 C.2.1 hd hv (k H locs la h1 h2 h3)
theorem r_lconst (C : Cx u p l s m meth c own cc nL D ca ρ) {n : Fin 2} {v : Int64} (hd : decode cc pc = .ok (.lconst n, 1)) (hv : Int64.ofNat (n : Nat) = v) (k : wm u p l e R s m args below meth c D ca ρ nL cells slots Q (pc + 1) ls (.long v :: st) S) : wm u p l e R s m args below meth c D ca ρ nL cells slots Q (pc) ls st S := fun H locs la h1 h2 h3 => lv_lconst C.1 C.2.1 hd hv (k H locs la h1 h2 h3)
theorem r_dconst0 (C : Cx u p l s m meth c own cc nL D ca ρ) (hd : decode cc pc = .ok (.dconst 0, 1)) (k : wm u p l e R s m args below meth c D ca ρ nL cells slots Q (pc + 1) ls (.double FP.dconst0 :: st) S) : wm u p l e R s m args below meth c D ca ρ nL cells slots Q (pc) ls st S := fun H locs la h1 h2 h3 => lv_dconst0 C.1 C.2.1 hd (k H locs la h1 h2 h3)
theorem r_iload_n (C : Cx u p l s m meth c own cc nL D ca ρ) {n : Fin 4} {x : Int32} (pl : Nat) (hl : ls[pl]? = some ((n : Nat), .int x)) (hd : decode cc pc = .ok (.iload_n n, 1)) (k : wm u p l e R s m args below meth c D ca ρ nL cells slots Q (pc + 1) ls (.int x :: st) S) : wm u p l e R s m args below meth c D ca ρ nL cells slots Q (pc) ls st S := fun H locs la h1 h2 h3 => lv_iload_n C.1 C.2.1 hd rfl (lv_at h3 pl hl) (k H locs la h1 h2 h3)
theorem r_iload (C : Cx u p l s m meth c own cc nL D ca ρ) {n : Nat} {x : Int32} (pl : Nat) (hl : ls[pl]? = some (n, .int x)) (hd : decode cc pc = .ok (.iload n, 2)) (k : wm u p l e R s m args below meth c D ca ρ nL cells slots Q (pc + 2) ls (.int x :: st) S) : wm u p l e R s m args below meth c D ca ρ nL cells slots Q (pc) ls st S := fun H locs la h1 h2 h3 => lv_iload C.1 C.2.1 hd (lv_at h3 pl hl) (k H locs la h1 h2 h3)
theorem r_istore_n (C : Cx u p l s m meth c own cc nL D ca ρ) {n : Fin 4} {x : Int32} {ls' : List (Nat × Value)} (hn : (n : Nat) < nL) (hl : ((n : Nat), Value.int x) :: ls.filter (fun q => !(q.1 == (n : Nat)) && !(q.1 + 1 == (n : Nat) && q.2.category == 2)) = ls') (hd : decode cc pc = .ok (.istore_n n, 1)) (k : wm u p l e R s m args below meth c D ca ρ nL cells slots Q (pc + 1) ls' st S) : wm u p l e R s m args below meth c D ca ρ nL cells slots Q (pc) ls (.int x :: st) S := fun H locs la h1 h2 h3 => lv_istore_n C.1 C.2.1 hd rfl h3 hn hl (fun la h => k H locs la h1 h2 h)
theorem r_istore (C : Cx u p l s m meth c own cc nL D ca ρ) {n : Nat} {x : Int32} {ls' : List (Nat × Value)} (hn : n < nL) (hl : (n, Value.int x) :: ls.filter (fun q => !(q.1 == n) && !(q.1 + 1 == n && q.2.category == 2)) = ls') (hd : decode cc pc = .ok (.istore n, 2)) (k : wm u p l e R s m args below meth c D ca ρ nL cells slots Q (pc + 2) ls' st S) : wm u p l e R s m args below meth c D ca ρ nL cells slots Q (pc) ls (.int x :: st) S := fun H locs la h1 h2 h3 => lv_istore C.1 C.2.1 hd h3 hn hl (fun la h => k H locs la h1 h2 h)
theorem r_lload_n (C : Cx u p l s m meth c own cc nL D ca ρ) {n : Fin 4} {x : Int64} (pl : Nat) (hl : ls[pl]? = some ((n : Nat), .long x)) (hd : decode cc pc = .ok (.lload_n n, 1)) (k : wm u p l e R s m args below meth c D ca ρ nL cells slots Q (pc + 1) ls (.long x :: st) S) : wm u p l e R s m args below meth c D ca ρ nL cells slots Q (pc) ls st S := fun H locs la h1 h2 h3 => lv_lload_n C.1 C.2.1 hd rfl (lv_at h3 pl hl) (k H locs la h1 h2 h3)
theorem r_lload (C : Cx u p l s m meth c own cc nL D ca ρ) {n : Nat} {x : Int64} (pl : Nat) (hl : ls[pl]? = some (n, .long x)) (hd : decode cc pc = .ok (.lload n, 2)) (k : wm u p l e R s m args below meth c D ca ρ nL cells slots Q (pc + 2) ls (.long x :: st) S) : wm u p l e R s m args below meth c D ca ρ nL cells slots Q (pc) ls st S := fun H locs la h1 h2 h3 => lv_lload C.1 C.2.1 hd (lv_at h3 pl hl) (k H locs la h1 h2 h3)
theorem r_lstore_n (C : Cx u p l s m meth c own cc nL D ca ρ) {n : Fin 4} {x : Int64} {ls' : List (Nat × Value)} (hn : (n : Nat) + 1 < nL) (hl : ((n : Nat), Value.long x) :: ls.filter (fun q => !(q.1 == (n : Nat)) && (!(q.1 == (n : Nat) + 1) && !(q.1 + 1 == (n : Nat) && q.2.category == 2))) = ls') (hd : decode cc pc = .ok (.lstore_n n, 1)) (k : wm u p l e R s m args below meth c D ca ρ nL cells slots Q (pc + 1) ls' st S) : wm u p l e R s m args below meth c D ca ρ nL cells slots Q (pc) ls (.long x :: st) S := fun H locs la h1 h2 h3 => lv_lstore_n C.1 C.2.1 hd rfl h3 hn hl (fun la h => k H locs la h1 h2 h)
theorem r_lstore (C : Cx u p l s m meth c own cc nL D ca ρ) {n : Nat} {x : Int64} {ls' : List (Nat × Value)} (hn : n + 1 < nL) (hl : (n, Value.long x) :: ls.filter (fun q => !(q.1 == n) && (!(q.1 == n + 1) && !(q.1 + 1 == n && q.2.category == 2))) = ls') (hd : decode cc pc = .ok (.lstore n, 2)) (k : wm u p l e R s m args below meth c D ca ρ nL cells slots Q (pc + 2) ls' st S) : wm u p l e R s m args below meth c D ca ρ nL cells slots Q (pc) ls (.long x :: st) S := fun H locs la h1 h2 h3 => lv_lstore C.1 C.2.1 hd h3 hn hl (fun la h => k H locs la h1 h2 h)
theorem r_dload_n (C : Cx u p l s m meth c own cc nL D ca ρ) {n : Fin 4} {x : UInt64} (pl : Nat) (hl : ls[pl]? = some ((n : Nat), .double x)) (hd : decode cc pc = .ok (.dload_n n, 1)) (k : wm u p l e R s m args below meth c D ca ρ nL cells slots Q (pc + 1) ls (.double x :: st) S) : wm u p l e R s m args below meth c D ca ρ nL cells slots Q (pc) ls st S := fun H locs la h1 h2 h3 => lv_dload_n C.1 C.2.1 hd rfl (lv_at h3 pl hl) (k H locs la h1 h2 h3)
theorem r_dload (C : Cx u p l s m meth c own cc nL D ca ρ) {n : Nat} {x : UInt64} (pl : Nat) (hl : ls[pl]? = some (n, .double x)) (hd : decode cc pc = .ok (.dload n, 2)) (k : wm u p l e R s m args below meth c D ca ρ nL cells slots Q (pc + 2) ls (.double x :: st) S) : wm u p l e R s m args below meth c D ca ρ nL cells slots Q (pc) ls st S := fun H locs la h1 h2 h3 => lv_dload C.1 C.2.1 hd (lv_at h3 pl hl) (k H locs la h1 h2 h3)
theorem r_dstore_n (C : Cx u p l s m meth c own cc nL D ca ρ) {n : Fin 4} {x : UInt64} {ls' : List (Nat × Value)} (hn : (n : Nat) + 1 < nL) (hl : ((n : Nat), Value.double x) :: ls.filter (fun q => !(q.1 == (n : Nat)) && (!(q.1 == (n : Nat) + 1) && !(q.1 + 1 == (n : Nat) && q.2.category == 2))) = ls') (hd : decode cc pc = .ok (.dstore_n n, 1)) (k : wm u p l e R s m args below meth c D ca ρ nL cells slots Q (pc + 1) ls' st S) : wm u p l e R s m args below meth c D ca ρ nL cells slots Q (pc) ls (.double x :: st) S := fun H locs la h1 h2 h3 => lv_dstore_n C.1 C.2.1 hd rfl h3 hn hl (fun la h => k H locs la h1 h2 h)
theorem r_dstore (C : Cx u p l s m meth c own cc nL D ca ρ) {n : Nat} {x : UInt64} {ls' : List (Nat × Value)} (hn : n + 1 < nL) (hl : (n, Value.double x) :: ls.filter (fun q => !(q.1 == n) && (!(q.1 == n + 1) && !(q.1 + 1 == n && q.2.category == 2))) = ls') (hd : decode cc pc = .ok (.dstore n, 2)) (k : wm u p l e R s m args below meth c D ca ρ nL cells slots Q (pc + 2) ls' st S) : wm u p l e R s m args below meth c D ca ρ nL cells slots Q (pc) ls (.double x :: st) S := fun H locs la h1 h2 h3 => lv_dstore C.1 C.2.1 hd h3 hn hl (fun la h => k H locs la h1 h2 h)
theorem r_aload_n (C : Cx u p l s m meth c own cc nL D ca ρ) {n : Fin 4} {x : Nat} (pl : Nat) (hl : ls[pl]? = some ((n : Nat), .ref x)) (hd : decode cc pc = .ok (.aload_n n, 1)) (k : wm u p l e R s m args below meth c D ca ρ nL cells slots Q (pc + 1) ls (.ref x :: st) S) : wm u p l e R s m args below meth c D ca ρ nL cells slots Q (pc) ls st S := fun H locs la h1 h2 h3 => lv_aload_n C.1 C.2.1 hd rfl (lv_at h3 pl hl) (k H locs la h1 h2 h3)
theorem r_aload (C : Cx u p l s m meth c own cc nL D ca ρ) {n : Nat} {x : Nat} (pl : Nat) (hl : ls[pl]? = some (n, .ref x)) (hd : decode cc pc = .ok (.aload n, 2)) (k : wm u p l e R s m args below meth c D ca ρ nL cells slots Q (pc + 2) ls (.ref x :: st) S) : wm u p l e R s m args below meth c D ca ρ nL cells slots Q (pc) ls st S := fun H locs la h1 h2 h3 => lv_aload C.1 C.2.1 hd (lv_at h3 pl hl) (k H locs la h1 h2 h3)
theorem r_astore_n (C : Cx u p l s m meth c own cc nL D ca ρ) {n : Fin 4} {x : Nat} {ls' : List (Nat × Value)} (hn : (n : Nat) < nL) (hl : ((n : Nat), Value.ref x) :: ls.filter (fun q => !(q.1 == (n : Nat)) && !(q.1 + 1 == (n : Nat) && q.2.category == 2)) = ls') (hd : decode cc pc = .ok (.astore_n n, 1)) (k : wm u p l e R s m args below meth c D ca ρ nL cells slots Q (pc + 1) ls' st S) : wm u p l e R s m args below meth c D ca ρ nL cells slots Q (pc) ls (.ref x :: st) S := fun H locs la h1 h2 h3 => lv_astore_n C.1 C.2.1 hd rfl h3 hn hl (fun la h => k H locs la h1 h2 h)
theorem r_astore (C : Cx u p l s m meth c own cc nL D ca ρ) {n : Nat} {x : Nat} {ls' : List (Nat × Value)} (hn : n < nL) (hl : (n, Value.ref x) :: ls.filter (fun q => !(q.1 == n) && !(q.1 + 1 == n && q.2.category == 2)) = ls') (hd : decode cc pc = .ok (.astore n, 2)) (k : wm u p l e R s m args below meth c D ca ρ nL cells slots Q (pc + 2) ls' st S) : wm u p l e R s m args below meth c D ca ρ nL cells slots Q (pc) ls (.ref x :: st) S := fun H locs la h1 h2 h3 => lv_astore C.1 C.2.1 hd h3 hn hl (fun la h => k H locs la h1 h2 h)
theorem r_iinc (C : Cx u p l s m meth c own cc nL D ca ρ) {i : Nat} {n : Int} {x v : Int32} {ls' : List (Nat × Value)} (pl : Nat) (hk : ls[pl]? = some (i, .int x)) (hv : x + Int32.ofInt n = v) (hn : i < nL) (hl : (i, Value.int v) :: ls.filter (fun q => !(q.1 == i) && !(q.1 + 1 == i && q.2.category == 2)) = ls') (hd : decode cc pc = .ok (.iinc i n, 3)) (k : wm u p l e R s m args below meth c D ca ρ nL cells slots Q (pc + 3) ls' st S) : wm u p l e R s m args below meth c D ca ρ nL cells slots Q (pc) ls st S := fun H locs la h1 h2 h3 => lv_iinc C.1 C.2.1 hd h3 hk hv hn hl (fun la h => k H locs la h1 h2 h)
theorem r_iadd (C : Cx u p l s m meth c own cc nL D ca ρ) {x y : Int32} (hd : decode cc pc = .ok (.iadd, 1)) (k : wm u p l e R s m args below meth c D ca ρ nL cells slots Q (pc + 1) ls (.int (x + y) :: st) S) : wm u p l e R s m args below meth c D ca ρ nL cells slots Q (pc) ls (.int y :: .int x :: st) S := fun H locs la h1 h2 h3 => lv_iadd C.1 C.2.1 hd (k H locs la h1 h2 h3)
theorem r_isub (C : Cx u p l s m meth c own cc nL D ca ρ) {x y : Int32} (hd : decode cc pc = .ok (.isub, 1)) (k : wm u p l e R s m args below meth c D ca ρ nL cells slots Q (pc + 1) ls (.int (x - y) :: st) S) : wm u p l e R s m args below meth c D ca ρ nL cells slots Q (pc) ls (.int y :: .int x :: st) S := fun H locs la h1 h2 h3 => lv_isub C.1 C.2.1 hd (k H locs la h1 h2 h3)
theorem r_imul (C : Cx u p l s m meth c own cc nL D ca ρ) {x y : Int32} (hd : decode cc pc = .ok (.imul, 1)) (k : wm u p l e R s m args below meth c D ca ρ nL cells slots Q (pc + 1) ls (.int (x * y) :: st) S) : wm u p l e R s m args below meth c D ca ρ nL cells slots Q (pc) ls (.int y :: .int x :: st) S := fun H locs la h1 h2 h3 => lv_imul C.1 C.2.1 hd (k H locs la h1 h2 h3)
theorem r_iand (C : Cx u p l s m meth c own cc nL D ca ρ) {x y : Int32} (hd : decode cc pc = .ok (.iand, 1)) (k : wm u p l e R s m args below meth c D ca ρ nL cells slots Q (pc + 1) ls (.int (x &&& y) :: st) S) : wm u p l e R s m args below meth c D ca ρ nL cells slots Q (pc) ls (.int y :: .int x :: st) S := fun H locs la h1 h2 h3 => lv_iand C.1 C.2.1 hd (k H locs la h1 h2 h3)
theorem r_ior (C : Cx u p l s m meth c own cc nL D ca ρ) {x y : Int32} (hd : decode cc pc = .ok (.ior, 1)) (k : wm u p l e R s m args below meth c D ca ρ nL cells slots Q (pc + 1) ls (.int (x ||| y) :: st) S) : wm u p l e R s m args below meth c D ca ρ nL cells slots Q (pc) ls (.int y :: .int x :: st) S := fun H locs la h1 h2 h3 => lv_ior C.1 C.2.1 hd (k H locs la h1 h2 h3)
theorem r_ixor (C : Cx u p l s m meth c own cc nL D ca ρ) {x y : Int32} (hd : decode cc pc = .ok (.ixor, 1)) (k : wm u p l e R s m args below meth c D ca ρ nL cells slots Q (pc + 1) ls (.int (x ^^^ y) :: st) S) : wm u p l e R s m args below meth c D ca ρ nL cells slots Q (pc) ls (.int y :: .int x :: st) S := fun H locs la h1 h2 h3 => lv_ixor C.1 C.2.1 hd (k H locs la h1 h2 h3)
theorem r_ishl (C : Cx u p l s m meth c own cc nL D ca ρ) {x y : Int32} (hd : decode cc pc = .ok (.ishl, 1)) (k : wm u p l e R s m args below meth c D ca ρ nL cells slots Q (pc + 1) ls (.int (x <<< (y &&& 31)) :: st) S) : wm u p l e R s m args below meth c D ca ρ nL cells slots Q (pc) ls (.int y :: .int x :: st) S := fun H locs la h1 h2 h3 => lv_ishl C.1 C.2.1 hd (k H locs la h1 h2 h3)
theorem r_ishr (C : Cx u p l s m meth c own cc nL D ca ρ) {x y : Int32} (hd : decode cc pc = .ok (.ishr, 1)) (k : wm u p l e R s m args below meth c D ca ρ nL cells slots Q (pc + 1) ls (.int (x >>> (y &&& 31)) :: st) S) : wm u p l e R s m args below meth c D ca ρ nL cells slots Q (pc) ls (.int y :: .int x :: st) S := fun H locs la h1 h2 h3 => lv_ishr C.1 C.2.1 hd (k H locs la h1 h2 h3)
theorem r_ladd (C : Cx u p l s m meth c own cc nL D ca ρ) {x y : Int64} (hd : decode cc pc = .ok (.ladd, 1)) (k : wm u p l e R s m args below meth c D ca ρ nL cells slots Q (pc + 1) ls (.long (x + y) :: st) S) : wm u p l e R s m args below meth c D ca ρ nL cells slots Q (pc) ls (.long y :: .long x :: st) S := fun H locs la h1 h2 h3 => lv_ladd C.1 C.2.1 hd (k H locs la h1 h2 h3)
theorem r_lsub (C : Cx u p l s m meth c own cc nL D ca ρ) {x y : Int64} (hd : decode cc pc = .ok (.lsub, 1)) (k : wm u p l e R s m args below meth c D ca ρ nL cells slots Q (pc + 1) ls (.long (x - y) :: st) S) : wm u p l e R s m args below meth c D ca ρ nL cells slots Q (pc) ls (.long y :: .long x :: st) S := fun H locs la h1 h2 h3 => lv_lsub C.1 C.2.1 hd (k H locs la h1 h2 h3)
theorem r_lmul (C : Cx u p l s m meth c own cc nL D ca ρ) {x y : Int64} (hd : decode cc pc = .ok (.lmul, 1)) (k : wm u p l e R s m args below meth c D ca ρ nL cells slots Q (pc + 1) ls (.long (x * y) :: st) S) : wm u p l e R s m args below meth c D ca ρ nL cells slots Q (pc) ls (.long y :: .long x :: st) S := fun H locs la h1 h2 h3 => lv_lmul C.1 C.2.1 hd (k H locs la h1 h2 h3)
theorem r_land (C : Cx u p l s m meth c own cc nL D ca ρ) {x y : Int64} (hd : decode cc pc = .ok (.land, 1)) (k : wm u p l e R s m args below meth c D ca ρ nL cells slots Q (pc + 1) ls (.long (x &&& y) :: st) S) : wm u p l e R s m args below meth c D ca ρ nL cells slots Q (pc) ls (.long y :: .long x :: st) S := fun H locs la h1 h2 h3 => lv_land C.1 C.2.1 hd (k H locs la h1 h2 h3)
theorem r_lor (C : Cx u p l s m meth c own cc nL D ca ρ) {x y : Int64} (hd : decode cc pc = .ok (.lor, 1)) (k : wm u p l e R s m args below meth c D ca ρ nL cells slots Q (pc + 1) ls (.long (x ||| y) :: st) S) : wm u p l e R s m args below meth c D ca ρ nL cells slots Q (pc) ls (.long y :: .long x :: st) S := fun H locs la h1 h2 h3 => lv_lor C.1 C.2.1 hd (k H locs la h1 h2 h3)
theorem r_lxor (C : Cx u p l s m meth c own cc nL D ca ρ) {x y : Int64} (hd : decode cc pc = .ok (.lxor, 1)) (k : wm u p l e R s m args below meth c D ca ρ nL cells slots Q (pc + 1) ls (.long (x ^^^ y) :: st) S) : wm u p l e R s m args below meth c D ca ρ nL cells slots Q (pc) ls (.long y :: .long x :: st) S := fun H locs la h1 h2 h3 => lv_lxor C.1 C.2.1 hd (k H locs la h1 h2 h3)
theorem r_idiv (C : Cx u p l s m meth c own cc nL D ca ρ) {x y : Int32} (hd : decode cc pc = .ok (.idiv, 1)) (hn : ¬ y = 0) (k : wm u p l e R s m args below meth c D ca ρ nL cells slots Q (pc + 1) ls (.int (x / y) :: st) S) : wm u p l e R s m args below meth c D ca ρ nL cells slots Q (pc) ls (.int y :: .int x :: st) S := fun H locs la h1 h2 h3 => lv_idiv C.1 C.2.1 hd hn (k H locs la h1 h2 h3)
theorem r_irem (C : Cx u p l s m meth c own cc nL D ca ρ) {x y : Int32} (hd : decode cc pc = .ok (.irem, 1)) (hn : ¬ y = 0) (k : wm u p l e R s m args below meth c D ca ρ nL cells slots Q (pc + 1) ls (.int (x - x / y * y) :: st) S) : wm u p l e R s m args below meth c D ca ρ nL cells slots Q (pc) ls (.int y :: .int x :: st) S := fun H locs la h1 h2 h3 => lv_irem C.1 C.2.1 hd hn (k H locs la h1 h2 h3)
theorem r_ldiv (C : Cx u p l s m meth c own cc nL D ca ρ) {x y : Int64} (hd : decode cc pc = .ok (.ldiv, 1)) (hn : ¬ y = 0) (k : wm u p l e R s m args below meth c D ca ρ nL cells slots Q (pc + 1) ls (.long (x / y) :: st) S) : wm u p l e R s m args below meth c D ca ρ nL cells slots Q (pc) ls (.long y :: .long x :: st) S := fun H locs la h1 h2 h3 => lv_ldiv C.1 C.2.1 hd hn (k H locs la h1 h2 h3)
theorem r_lrem (C : Cx u p l s m meth c own cc nL D ca ρ) {x y : Int64} (hd : decode cc pc = .ok (.lrem, 1)) (hn : ¬ y = 0) (k : wm u p l e R s m args below meth c D ca ρ nL cells slots Q (pc + 1) ls (.long (x - x / y * y) :: st) S) : wm u p l e R s m args below meth c D ca ρ nL cells slots Q (pc) ls (.long y :: .long x :: st) S := fun H locs la h1 h2 h3 => lv_lrem C.1 C.2.1 hd hn (k H locs la h1 h2 h3)
theorem r_iushr (C : Cx u p l s m meth c own cc nL D ca ρ) {x y : Int32} (hd : decode cc pc = .ok (.iushr, 1)) (k : wm u p l e R s m args below meth c D ca ρ nL cells slots Q (pc + 1) ls (.int (jushr x y) :: st) S) : wm u p l e R s m args below meth c D ca ρ nL cells slots Q (pc) ls (.int y :: .int x :: st) S := fun H locs la h1 h2 h3 => lv_iushr C.1 C.2.1 hd rfl (k H locs la h1 h2 h3)
theorem r_lushr (C : Cx u p l s m meth c own cc nL D ca ρ) {x : Int64} {y : Int32} (hd : decode cc pc = .ok (.lushr, 1)) (k : wm u p l e R s m args below meth c D ca ρ nL cells slots Q (pc + 1) ls (.long (jlushr x y) :: st) S) : wm u p l e R s m args below meth c D ca ρ nL cells slots Q (pc) ls (.int y :: .long x :: st) S := fun H locs la h1 h2 h3 => lv_lushr C.1 C.2.1 hd rfl (k H locs la h1 h2 h3)
theorem r_lshl (C : Cx u p l s m meth c own cc nL D ca ρ) {x : Int64} {y : Int32} (hd : decode cc pc = .ok (.lshl, 1)) (k : wm u p l e R s m args below meth c D ca ρ nL cells slots Q (pc + 1) ls (.long (jlshl x y) :: st) S) : wm u p l e R s m args below meth c D ca ρ nL cells slots Q (pc) ls (.int y :: .long x :: st) S := fun H locs la h1 h2 h3 => lv_lshl C.1 C.2.1 hd rfl (k H locs la h1 h2 h3)
theorem r_lshr (C : Cx u p l s m meth c own cc nL D ca ρ) {x : Int64} {y : Int32} (hd : decode cc pc = .ok (.lshr, 1)) (k : wm u p l e R s m args below meth c D ca ρ nL cells slots Q (pc + 1) ls (.long (jlshr x y) :: st) S) : wm u p l e R s m args below meth c D ca ρ nL cells slots Q (pc) ls (.int y :: .long x :: st) S := fun H locs la h1 h2 h3 => lv_lshr C.1 C.2.1 hd rfl (k H locs la h1 h2 h3)
theorem r_i2l (C : Cx u p l s m meth c own cc nL D ca ρ) {x : Int32} (hd : decode cc pc = .ok (.i2l, 1)) (k : wm u p l e R s m args below meth c D ca ρ nL cells slots Q (pc + 1) ls (.long (x.toInt64) :: st) S) : wm u p l e R s m args below meth c D ca ρ nL cells slots Q (pc) ls (.int x :: st) S := fun H locs la h1 h2 h3 => lv_i2l C.1 C.2.1 hd rfl (k H locs la h1 h2 h3)
theorem r_l2i (C : Cx u p l s m meth c own cc nL D ca ρ) {x : Int64} (hd : decode cc pc = .ok (.l2i, 1)) (k : wm u p l e R s m args below meth c D ca ρ nL cells slots Q (pc + 1) ls (.int (x.toInt32) :: st) S) : wm u p l e R s m args below meth c D ca ρ nL cells slots Q (pc) ls (.long x :: st) S := fun H locs la h1 h2 h3 => lv_l2i C.1 C.2.1 hd rfl (k H locs la h1 h2 h3)
theorem r_i2b (C : Cx u p l s m meth c own cc nL D ca ρ) {x : Int32} (hd : decode cc pc = .ok (.i2b, 1)) (k : wm u p l e R s m args below meth c D ca ρ nL cells slots Q (pc + 1) ls (.int (x.toInt8.toInt32) :: st) S) : wm u p l e R s m args below meth c D ca ρ nL cells slots Q (pc) ls (.int x :: st) S := fun H locs la h1 h2 h3 => lv_i2b C.1 C.2.1 hd rfl (k H locs la h1 h2 h3)
theorem r_i2d (C : Cx u p l s m meth c own cc nL D ca ρ) {x : Int32} (hd : decode cc pc = .ok (.i2d, 1)) (k : wm u p l e R s m args below meth c D ca ρ nL cells slots Q (pc + 1) ls (.double (FP.i2d x) :: st) S) : wm u p l e R s m args below meth c D ca ρ nL cells slots Q (pc) ls (.int x :: st) S := fun H locs la h1 h2 h3 => lv_i2d C.1 C.2.1 hd (k H locs la h1 h2 h3)
theorem r_l2d (C : Cx u p l s m meth c own cc nL D ca ρ) {x : Int64} (hd : decode cc pc = .ok (.l2d, 1)) (k : wm u p l e R s m args below meth c D ca ρ nL cells slots Q (pc + 1) ls (.double (FP.l2d x) :: st) S) : wm u p l e R s m args below meth c D ca ρ nL cells slots Q (pc) ls (.long x :: st) S := fun H locs la h1 h2 h3 => lv_l2d C.1 C.2.1 hd (k H locs la h1 h2 h3)
theorem r_d2i (C : Cx u p l s m meth c own cc nL D ca ρ) {x : UInt64} (hd : decode cc pc = .ok (.d2i, 1)) (k : wm u p l e R s m args below meth c D ca ρ nL cells slots Q (pc + 1) ls (.int (FP.d2i x) :: st) S) : wm u p l e R s m args below meth c D ca ρ nL cells slots Q (pc) ls (.double x :: st) S := fun H locs la h1 h2 h3 => lv_d2i C.1 C.2.1 hd (k H locs la h1 h2 h3)
theorem r_dadd (C : Cx u p l s m meth c own cc nL D ca ρ) {x y : UInt64} (hd : decode cc pc = .ok (.dadd, 1)) (hn : vf_n64 (FP.dadd x y)) (k : wm u p l e R s m args below meth c D ca ρ nL cells slots Q (pc + 1) ls (.double (FP.dadd x y) :: st) S) : wm u p l e R s m args below meth c D ca ρ nL cells slots Q (pc) ls (.double y :: .double x :: st) S := fun H locs la h1 h2 h3 => lv_dadd C.1 C.2.1 hd hn (k H locs la h1 h2 h3)
theorem r_dsub (C : Cx u p l s m meth c own cc nL D ca ρ) {x y : UInt64} (hd : decode cc pc = .ok (.dsub, 1)) (hn : vf_n64 (FP.dsub x y)) (k : wm u p l e R s m args below meth c D ca ρ nL cells slots Q (pc + 1) ls (.double (FP.dsub x y) :: st) S) : wm u p l e R s m args below meth c D ca ρ nL cells slots Q (pc) ls (.double y :: .double x :: st) S := fun H locs la h1 h2 h3 => lv_dsub C.1 C.2.1 hd hn (k H locs la h1 h2 h3)
theorem r_dmul (C : Cx u p l s m meth c own cc nL D ca ρ) {x y : UInt64} (hd : decode cc pc = .ok (.dmul, 1)) (hn : vf_n64 (FP.dmul x y)) (k : wm u p l e R s m args below meth c D ca ρ nL cells slots Q (pc + 1) ls (.double (FP.dmul x y) :: st) S) : wm u p l e R s m args below meth c D ca ρ nL cells slots Q (pc) ls (.double y :: .double x :: st) S := fun H locs la h1 h2 h3 => lv_dmul C.1 C.2.1 hd hn (k H locs la h1 h2 h3)
theorem r_ddiv (C : Cx u p l s m meth c own cc nL D ca ρ) {x y : UInt64} (hd : decode cc pc = .ok (.ddiv, 1)) (hn : vf_n64 (FP.ddiv x y)) (k : wm u p l e R s m args below meth c D ca ρ nL cells slots Q (pc + 1) ls (.double (FP.ddiv x y) :: st) S) : wm u p l e R s m args below meth c D ca ρ nL cells slots Q (pc) ls (.double y :: .double x :: st) S := fun H locs la h1 h2 h3 => lv_ddiv C.1 C.2.1 hd hn (k H locs la h1 h2 h3)
theorem r_lcmp (C : Cx u p l s m meth c own cc nL D ca ρ) {x y : Int64} (hd : decode cc pc = .ok (.lcmp, 1)) (k : wm u p l e R s m args below meth c D ca ρ nL cells slots Q (pc + 1) ls (.int (lg_cmp x y) :: st) S) : wm u p l e R s m args below meth c D ca ρ nL cells slots Q (pc) ls (.long y :: .long x :: st) S := fun H locs la h1 h2 h3 => W.lcmp C.1 C.2.1 hd (k H locs la h1 h2 h3)
theorem r_dcmp (C : Cx u p l s m meth c own cc nL D ca ρ) {x y : UInt64} {op : CmpOp} (hd : decode cc pc = .ok (.dcmp op, 1)) (k : wm u p l e R s m args below meth c D ca ρ nL cells slots Q (pc + 1) ls (.int (Op.cmpValue (FP.dcmp x y) op) :: st) S) : wm u p l e R s m args below meth c D ca ρ nL cells slots Q (pc) ls (.double y :: .double x :: st) S := fun H locs la h1 h2 h3 => lv_dcmp C.1 C.2.1 hd (k H locs la h1 h2 h3)
theorem r_dup (C : Cx u p l s m meth c own cc nL D ca ρ) {v : Value} (hv : v.category = 1) (hd : decode cc pc = .ok (.dup, 1)) (k : wm u p l e R s m args below meth c D ca ρ nL cells slots Q (pc + 1) ls (v :: v :: st) S) : wm u p l e R s m args below meth c D ca ρ nL cells slots Q (pc) ls (v :: st) S := fun H locs la h1 h2 h3 => lv_dup C.1 C.2.1 hd hv (k H locs la h1 h2 h3)
theorem r_pop (C : Cx u p l s m meth c own cc nL D ca ρ) {v : Value} (hv : v.category = 1) (hd : decode cc pc = .ok (.pop, 1)) (k : wm u p l e R s m args below meth c D ca ρ nL cells slots Q (pc + 1) ls st S) : wm u p l e R s m args below meth c D ca ρ nL cells slots Q (pc) ls (v :: st) S := fun H locs la h1 h2 h3 => lv_pop C.1 C.2.1 hd hv (k H locs la h1 h2 h3)
theorem r_dup2 (C : Cx u p l s m meth c own cc nL D ca ρ) {v w : Value} (hv : v.category = 1) (hw : w.category = 1) (hd : decode cc pc = .ok (.dup2, 1)) (k : wm u p l e R s m args below meth c D ca ρ nL cells slots Q (pc + 1) ls (v :: w :: v :: w :: st) S) : wm u p l e R s m args below meth c D ca ρ nL cells slots Q (pc) ls (v :: w :: st) S := fun H locs la h1 h2 h3 => lv_dup2_11 C.1 C.2.1 hd hv hw (k H locs la h1 h2 h3)
theorem r_goto (C : Cx u p l s m meth c own cc nL D ca ρ) {off : Int} {tgt : Nat} (hd : decode cc pc = .ok (.goto off, 3)) (ht : (pc : Int) + off = (tgt : Int)) (k : wm u p l e R s m args below meth c D ca ρ nL cells slots Q (tgt) ls st S) : wm u p l e R s m args below meth c D ca ρ nL cells slots Q (pc) ls st S := fun H locs la h1 h2 h3 => lv_goto C.1 C.2.1 hd ht (k H locs la h1 h2 h3)
theorem r_if_eq (C : Cx u p l s m meth c own cc nL D ca ρ) {x : Int32} {off : Int} {tgt : Nat} (hd : decode cc pc = .ok (.ifCond .eq off, 3)) (ht : (pc : Int) + off = (tgt : Int)) (kt : x = 0 → wm u p l e R s m args below meth c D ca ρ nL cells slots Q (tgt) ls st S) (kf : ¬ x = 0 → wm u p l e R s m args below meth c D ca ρ nL cells slots Q (pc + 3) ls st S) : wm u p l e R s m args below meth c D ca ρ nL cells slots Q (pc) ls (.int x :: st) S := fun H locs la h1 h2 h3 => lv_if_eq C.1 C.2.1 hd ht (fun q => kt q H locs la h1 h2 h3) (fun q => kf q H locs la h1 h2 h3)
theorem r_icmp_eq (C : Cx u p l s m meth c own cc nL D ca ρ) {x y : Int32} {off : Int} {tgt : Nat} (hd : decode cc pc = .ok (.if_icmp .eq off, 3)) (ht : (pc : Int) + off = (tgt : Int)) (kt : x = y → wm u p l e R s m args below meth c D ca ρ nL cells slots Q (tgt) ls st S) (kf : ¬ x = y → wm u p l e R s m args below meth c D ca ρ nL cells slots Q (pc + 3) ls st S) : wm u p l e R s m args below meth c D ca ρ nL cells slots Q (pc) ls (.int y :: .int x :: st) S := fun H locs la h1 h2 h3 => lv_icmp_eq C.1 C.2.1 hd ht (fun q => kt q H locs la h1 h2 h3) (fun q => kf q H locs la h1 h2 h3)
theorem r_if_ne (C : Cx u p l s m meth c own cc nL D ca ρ) {x : Int32} {off : Int} {tgt : Nat} (hd : decode cc pc = .ok (.ifCond .ne off, 3)) (ht : (pc : Int) + off = (tgt : Int)) (kt : ¬ x = 0 → wm u p l e R s m args below meth c D ca ρ nL cells slots Q (tgt) ls st S) (kf : x = 0 → wm u p l e R s m args below meth c D ca ρ nL cells slots Q (pc + 3) ls st S) : wm u p l e R s m args below meth c D ca ρ nL cells slots Q (pc) ls (.int x :: st) S := fun H locs la h1 h2 h3 => lv_if_ne C.1 C.2.1 hd ht (fun q => kt q H locs la h1 h2 h3) (fun q => kf q H locs la h1 h2 h3)
theorem r_icmp_ne (C : Cx u p l s m meth c own cc nL D ca ρ) {x y : Int32} {off : Int} {tgt : Nat} (hd : decode cc pc = .ok (.if_icmp .ne off, 3)) (ht : (pc : Int) + off = (tgt : Int)) (kt : ¬ x = y → wm u p l e R s m args below meth c D ca ρ nL cells slots Q (tgt) ls st S) (kf : x = y → wm u p l e R s m args below meth c D ca ρ nL cells slots Q (pc + 3) ls st S) : wm u p l e R s m args below meth c D ca ρ nL cells slots Q (pc) ls (.int y :: .int x :: st) S := fun H locs la h1 h2 h3 => lv_icmp_ne C.1 C.2.1 hd ht (fun q => kt q H locs la h1 h2 h3) (fun q => kf q H locs la h1 h2 h3)
theorem r_if_lt (C : Cx u p l s m meth c own cc nL D ca ρ) {x : Int32} {off : Int} {tgt : Nat} (hd : decode cc pc = .ok (.ifCond .lt off, 3)) (ht : (pc : Int) + off = (tgt : Int)) (kt : x < 0 → wm u p l e R s m args below meth c D ca ρ nL cells slots Q (tgt) ls st S) (kf : ¬ x < 0 → wm u p l e R s m args below meth c D ca ρ nL cells slots Q (pc + 3) ls st S) : wm u p l e R s m args below meth c D ca ρ nL cells slots Q (pc) ls (.int x :: st) S := fun H locs la h1 h2 h3 => lv_if_lt C.1 C.2.1 hd ht (fun q => kt q H locs la h1 h2 h3) (fun q => kf q H locs la h1 h2 h3)
theorem r_icmp_lt (C : Cx u p l s m meth c own cc nL D ca ρ) {x y : Int32} {off : Int} {tgt : Nat} (hd : decode cc pc = .ok (.if_icmp .lt off, 3)) (ht : (pc : Int) + off = (tgt : Int)) (kt : x < y → wm u p l e R s m args below meth c D ca ρ nL cells slots Q (tgt) ls st S) (kf : ¬ x < y → wm u p l e R s m args below meth c D ca ρ nL cells slots Q (pc + 3) ls st S) : wm u p l e R s m args below meth c D ca ρ nL cells slots Q (pc) ls (.int y :: .int x :: st) S := fun H locs la h1 h2 h3 => lv_icmp_lt C.1 C.2.1 hd ht (fun q => kt q H locs la h1 h2 h3) (fun q => kf q H locs la h1 h2 h3)
theorem r_if_ge (C : Cx u p l s m meth c own cc nL D ca ρ) {x : Int32} {off : Int} {tgt : Nat} (hd : decode cc pc = .ok (.ifCond .ge off, 3)) (ht : (pc : Int) + off = (tgt : Int)) (kt : 0 ≤ x → wm u p l e R s m args below meth c D ca ρ nL cells slots Q (tgt) ls st S) (kf : ¬ 0 ≤ x → wm u p l e R s m args below meth c D ca ρ nL cells slots Q (pc + 3) ls st S) : wm u p l e R s m args below meth c D ca ρ nL cells slots Q (pc) ls (.int x :: st) S := fun H locs la h1 h2 h3 => lv_if_ge C.1 C.2.1 hd ht (fun q => kt q H locs la h1 h2 h3) (fun q => kf q H locs la h1 h2 h3)
theorem r_icmp_ge (C : Cx u p l s m meth c own cc nL D ca ρ) {x y : Int32} {off : Int} {tgt : Nat} (hd : decode cc pc = .ok (.if_icmp .ge off, 3)) (ht : (pc : Int) + off = (tgt : Int)) (kt : y ≤ x → wm u p l e R s m args below meth c D ca ρ nL cells slots Q (tgt) ls st S) (kf : ¬ y ≤ x → wm u p l e R s m args below meth c D ca ρ nL cells slots Q (pc + 3) ls st S) : wm u p l e R s m args below meth c D ca ρ nL cells slots Q (pc) ls (.int y :: .int x :: st) S := fun H locs la h1 h2 h3 => lv_icmp_ge C.1 C.2.1 hd ht (fun q => kt q H locs la h1 h2 h3) (fun q => kf q H locs la h1 h2 h3)
theorem r_if_gt (C : Cx u p l s m meth c own cc nL D ca ρ) {x : Int32} {off : Int} {tgt : Nat} (hd : decode cc pc = .ok (.ifCond .gt off, 3)) (ht : (pc : Int) + off = (tgt : Int)) (kt : 0 < x → wm u p l e R s m args below meth c D ca ρ nL cells slots Q (tgt) ls st S) (kf : ¬ 0 < x → wm u p l e R s m args below meth c D ca ρ nL cells slots Q (pc + 3) ls st S) : wm u p l e R s m args below meth c D ca ρ nL cells slots Q (pc) ls (.int x :: st) S := fun H locs la h1 h2 h3 => lv_if_gt C.1 C.2.1 hd ht (fun q => kt q H locs la h1 h2 h3) (fun q => kf q H locs la h1 h2 h3)
theorem r_icmp_gt (C : Cx u p l s m meth c own cc nL D ca ρ) {x y : Int32} {off : Int} {tgt : Nat} (hd : decode cc pc = .ok (.if_icmp .gt off, 3)) (ht : (pc : Int) + off = (tgt : Int)) (kt : y < x → wm u p l e R s m args below meth c D ca ρ nL cells slots Q (tgt) ls st S) (kf : ¬ y < x → wm u p l e R s m args below meth c D ca ρ nL cells slots Q (pc + 3) ls st S) : wm u p l e R s m args below meth c D ca ρ nL cells slots Q (pc) ls (.int y :: .int x :: st) S := fun H locs la h1 h2 h3 => lv_icmp_gt C.1 C.2.1 hd ht (fun q => kt q H locs la h1 h2 h3) (fun q => kf q H locs la h1 h2 h3)
theorem r_if_le (C : Cx u p l s m meth c own cc nL D ca ρ) {x : Int32} {off : Int} {tgt : Nat} (hd : decode cc pc = .ok (.ifCond .le off, 3)) (ht : (pc : Int) + off = (tgt : Int)) (kt : x ≤ 0 → wm u p l e R s m args below meth c D ca ρ nL cells slots Q (tgt) ls st S) (kf : ¬ x ≤ 0 → wm u p l e R s m args below meth c D ca ρ nL cells slots Q (pc + 3) ls st S) : wm u p l e R s m args below meth c D ca ρ nL cells slots Q (pc) ls (.int x :: st) S := fun H locs la h1 h2 h3 => lv_if_le C.1 C.2.1 hd ht (fun q => kt q H locs la h1 h2 h3) (fun q => kf q H locs la h1 h2 h3)
theorem r_icmp_le (C : Cx u p l s m meth c own cc nL D ca ρ) {x y : Int32} {off : Int} {tgt : Nat} (hd : decode cc pc = .ok (.if_icmp .le off, 3)) (ht : (pc : Int) + off = (tgt : Int)) (kt : x ≤ y → wm u p l e R s m args below meth c D ca ρ nL cells slots Q (tgt) ls st S) (kf : ¬ x ≤ y → wm u p l e R s m args below meth c D ca ρ nL cells slots Q (pc + 3) ls st S) : wm u p l e R s m args below meth c D ca ρ nL cells slots Q (pc) ls (.int y :: .int x :: st) S := fun H locs la h1 h2 h3 => lv_icmp_le C.1 C.2.1 hd ht (fun q => kt q H locs la h1 h2 h3) (fun q => kf q H locs la h1 h2 h3)
theorem r_ldc2d (C : Cx u p l s m meth c own cc nL D ca ρ) {index : Nat} {v : UInt64} (hw : Cond.constantDouble own index v ∈ tbl) (hd : decode cc pc = .ok (.ldc2_w index, 3)) (k : wm u p l e R s m args below meth c D ca ρ nL cells slots Q (pc + 3) ls (.double v :: st) S) : wm u p l e R s m args below meth c D ca ρ nL cells slots Q (pc) ls st S := fun H locs la h1 h2 h3 => lv_ldc2d C.1 C.2.1 C.2.2.2.1 (C.2.2.2.2.1 _ hw _) hd (k H locs la h1 h2 h3)
theorem r_ldc2 (C : Cx u p l s m meth c own cc nL D ca ρ) {index : Nat} {v : Int64} (hw : Cond.constantLong own index v ∈ tbl) (hd : decode cc pc = .ok (.ldc2_w index, 3)) (k : wm u p l e R s m args below meth c D ca ρ nL cells slots Q (pc + 3) ls (.long v :: st) S) : wm u p l e R s m args below meth c D ca ρ nL cells slots Q (pc) ls st S := fun H locs la h1 h2 h3 => lv_ldc2 C.1 C.2.1 C.2.2.2.1 (C.2.2.2.2.1 _ hw _) hd (k H locs la h1 h2 h3)
theorem r_sub {ls' : List (Nat × Value)} (ks : List Nat) (hl : lv_pick ls ks = ls') (k : wm u p l e R s m args below meth c D ca ρ nL cells slots Q (pc) ls' st S) : wm u p l e R s m args below meth c D ca ρ nL cells slots Q (pc) ls st S := fun H locs la h1 h2 h3 => k H locs la h1 h2 (lv_sub h3 ks hl)
theorem r_wide {cells' slots' : Nat} (hc : cells ≤ cells') (hs : slots ≤ slots') (k : wm u p l e R s m args below meth c D ca ρ nL cells' slots' Q pc ls st S) : wm u p l e R s m args below meth c D ca ρ nL cells slots Q (pc) ls st S := fun H locs la h1 h2 h3 => W.widen hc hs (k H locs la h1 h2 h3)
theorem r_tsw_in (C : Cx u p l s m meth c own cc nL D ca ρ) {dflt lo hi : Int} {offs : Array Int} {len : Nat} {x : Int32} {off : Int} {tgt : Nat} (v : Int32) (hd : decode cc pc = .ok (.tableswitch dflt lo hi offs, len)) (hv : ¬ v.toInt < lo ∧ ¬ hi < v.toInt ∧ offs[(v.toInt - lo).toNat]? = some off) (ht : (pc : Int) + off = (tgt : Int)) (kt : x = v → wm u p l e R s m args below meth c D ca ρ nL cells slots Q (tgt) ls st S) (kf : ¬ x = v → wm u p l e R s m args below meth c D ca ρ nL cells slots Q (pc) ls (.int x :: st) S) : wm u p l e R s m args below meth c D ca ρ nL cells slots Q (pc) ls (.int x :: st) S := by
  intro H locs la h1 h2 h3
  by_cases q : x = v
  · subst q
    exact lv_tableIn C.1 C.2.1 hd hv.1 hv.2.1 hv.2.2 ht (kt rfl H locs la h1 h2 h3)
  · exact kf q H locs la h1 h2 h3
theorem r_tsw_out (C : Cx u p l s m meth c own cc nL D ca ρ) {dflt lo hi : Int} {offs : Array Int} {len : Nat} {x : Int32} {tgt : Nat} (vs : List Int32) (hd : decode cc pc = .ok (.tableswitch dflt lo hi offs, len)) (hx : ∀ v ∈ vs, ¬ x = v) (hv : (List.range (hi - lo + 1).toNat).all (fun i => decide (offs[i]? = some dflt) || vs.any (fun v => decide (v.toInt = lo + i))) = true) (ht : (pc : Int) + dflt = (tgt : Int)) (k : wm u p l e R s m args below meth c D ca ρ nL cells slots Q (tgt) ls st S) : wm u p l e R s m args below meth c D ca ρ nL cells slots Q (pc) ls (.int x :: st) S := by
  intro H locs la h1 h2 h3
  by_cases q1 : x.toInt < lo
  · exact lv_tableOut C.1 C.2.1 hd (Or.inl q1) ht (k H locs la h1 h2 h3)
  by_cases q2 : hi < x.toInt
  · exact lv_tableOut C.1 C.2.1 hd (Or.inr q2) ht (k H locs la h1 h2 h3)
  have h4 := List.all_eq_true.mp hv (x.toInt - lo).toNat (List.mem_range.mpr (by omega))
  simp only [Bool.or_eq_true, decide_eq_true_eq, List.any_eq_true] at h4
  rcases h4 with h4 | ⟨v, hv1, hv2⟩
  · exact lv_tableIn C.1 C.2.1 hd q1 q2 h4 ht (k H locs la h1 h2 h3)
  · exact absurd (Int32.toInt_inj.mp (by rw [hv2]; omega)) (hx v hv1)
theorem pic.one {u : Bool} {D : va_G} {ca : Nat → ClassId} {ρ : Nat → Nat → Nat} {S : St} {H : Heap} (hP : pic u D ca ρ S H) {k i : Nat} (hu : unit u k = true) (hi : i < cnt k) {e : va_E} (he : cellOf ca ρ S k i = e) : va_P D classes [(ρ k i, e)] H := by
  intro j q hq
  cases j with
  | zero => cases hq; rw [← he]; exact hP k i hu hi
  | succ j => simp at hq
theorem r_get (C : Cx u p l s m meth c own cc nL D ca ρ) {kd i index N : Nat} {fs : List Value} {Cn : String} {T : u_T} {v : Value} (hu : unit u kd = true) (hi : i < cnt kd) (hc : cellOf ca ρ S kd i = .inr (kd, fs)) (hcl : classes[kd]? = some (Cn, T, N)) (hin : ∀ w ∈ u_ws Cn T N, w ∈ tbl) (kf : Nat) (hk : kf < N) (hv : fs[kf]? = some v) (hw : Cond.fieldLink own index (T kf).1 (T kf).2.1 (T kf).2.2.1 ∈ tbl) (hd : decode cc pc = .ok (.getfield index, 3)) (k : wm u p l e R s m args below meth c D ca ρ nL cells slots Q (pc + 3) ls (v :: st) S) : wm u p l e R s m args below meth c D ca ρ nL cells slots Q (pc) ls (.ref (ρ kd i) :: st) S :=
  fun H locs la h1 h2 h3 => va_get (Ts := tbl) (ws := [(ρ kd i, .inr (kd, fs))]) C.1 C.2.1 (fun w hw => C.2.2.2.2.1 w hw _) hin C.2.2.2.1 C.2.2.2.2.2.1 (h1.one hu hi hc) 0 rfl hcl kf hk (C.2.2.2.2.1 _ hw _) (fun _ h => h) hv hd (k H locs la h1 h2 h3)
theorem r_getN (C : Cx u p l s m meth c own cc nL D ca ρ) {kd i index N : Nat} {fs : List Value} {Cn host : String} {T : u_T} {v : Value} (hu : unit u kd = true) (hi : i < cnt kd) (hc : cellOf ca ρ S kd i = .inr (kd, fs)) (hcl : classes[kd]? = some (Cn, T, N)) (hin : ∀ w ∈ u_ws Cn T N, w ∈ tbl) (kf : Nat) (hk : kf < N) (hv : fs[kf]? = some v) (hw : Cond.fieldLinkNest own index (T kf).1 (T kf).2.1 (T kf).2.2.1 host ∈ tbl) (hd : decode cc pc = .ok (.getfield index, 3)) (k : wm u p l e R s m args below meth c D ca ρ nL cells slots Q (pc + 3) ls (v :: st) S) : wm u p l e R s m args below meth c D ca ρ nL cells slots Q (pc) ls (.ref (ρ kd i) :: st) S :=
  fun H locs la h1 h2 h3 => va_getN (Ts := tbl) (ws := [(ρ kd i, .inr (kd, fs))]) C.1 C.2.1 (fun w hw => C.2.2.2.2.1 w hw _) hin C.2.2.2.1 C.2.2.2.2.2.1 (h1.one hu hi hc) 0 rfl hcl kf hk (C.2.2.2.2.1 _ hw _) (fun _ h => h) hv hd (k H locs la h1 h2 h3)
theorem va_S.put' {A : Nat → Prop} {H0 H H1 : Heap} {locs : List Loc} {a k : Nat} (h : va_S A H0 H locs) (z : H1.size = H.size) (oq : ∀ q : Nat, q ≠ a → H1[q]? = H[q]?) (ha : A a) : va_S A H0 H1 (locs ++ [⟨a, k⟩]) := h.put z oq ha
theorem r_put (C : Cx u p l s m meth c own cc nL D ca ρ) {S' : St} {kd i index N : Nat} {fs : List Value} {Cn : String} {T : u_T} {v : Value} {ty0 : Nat → FieldType} (hu : unit u kd = true) (hi : i < cnt kd) (hc : cellOf ca ρ S kd i = .inr (kd, fs)) (hcl : classes[kd]? = some (Cn, T, N)) (hin : ∀ w ∈ u_ws Cn T N, w ∈ tbl) (hty : ∀ k, k < N → parseFieldDescriptor (T k).2.2.1 = some (ty0 k)) (hnm : ∀ a, a < N → ∀ b, b < N → a ≠ b → (T a).2.1 ≠ (T b).2.1) (kf : Nat) (hk : kf < N) (hfin : (T kf).2.2.2 = false) (hn : narrow (ty0 kf) v = v) (hfit : fits (ty0 kf) v = true) (hl : kf < fs.length)
    (hset : cellOf ca ρ S' kd i = .inr (kd, fs.set kf v)) (same : ∀ k' i', ¬ (k' = kd ∧ i' = i) → cellOf ca ρ S' k' i' = cellOf ca ρ S k' i') (hw : Cond.fieldLink own index (T kf).1 (T kf).2.1 (T kf).2.2.1 ∈ tbl ∨ ∃ host, Cond.fieldLinkNest own index (T kf).1 (T kf).2.1 (T kf).2.2.1 host ∈ tbl) (hd : decode cc pc = .ok (.putfield index, 3)) (k : wm u p l e R s m args below meth c D ca ρ nL cells slots Q (pc + 3) ls st S') : wm u p l e R s m args below meth c D ca ρ nL cells slots Q (pc) ls (v :: .ref (ρ kd i) :: st) S := by
  intro H locs la h1 h2 h3
  obtain ⟨hx, hb, hml, hown, hT, hK, hA, -⟩ := C
  have hap := va_apart (s := s) (own := own) (fun w hw => hT w hw #[]) hin ty0 hty hnm hK hcl
  have hat := h1 kd i hu hi
  rw [hc] at hat
  obtain ⟨r, g1, cell, q1, q2, q3, q4⟩ := hat
  have hr : r = (Cn, T, N) := Option.some.inj (g1.symm.trans hcl)
  subst hr
  obtain ⟨hS, hfc, kC, hkC, hkind⟩ := hK.1 kd _ hcl
  obtain ⟨cf, kf', fi, f, hi2, hsl⟩ := hS kf hk
  have hlay := hT _ (hin _ (u_in_lay hk)) #[]
  unfold u_lay at hlay
  rw [if_neg (by rw [hfin]; decide)] at hlay
  have hst := (u_facts hfc hkC (u_lays (fun w hw => hT w hw #[]) hin hk) hi2).1
  have h6 := u_store hfc hkC hkind hlay hi2 (hty kf hk) hn hfit
  have done : ∀ H' : Heap, H'[ρ kd i]? = some (cell.setSlot f.slot v) → H'.size = H.size → (∀ q, q ≠ ρ kd i → H'[q]? = H[q]?) → W p l e R s m args below meth c H' (locs ++ [⟨ρ kd i, f.slot⟩]) cells slots Q (F0 m (pc + 3) la st) := by
    intro H' e1 e2 e3
    rw [hsl] at e1 ⊢
    refine k H' _ la (h1.put hA hu hi ?_ e3 same) (h2.put e2 e3 (Or.inl ⟨kd, i, hu, hi, rfl⟩)) h3
    rw [hset]
    exact ⟨_, hcl, t_OB.to (V := updV (vp_V fs) kf v) ⟨_, e1, q2, q3, t_set q4 hap hk v⟩ (fun j _ => vp_updV_set hl v j)⟩
  rcases hw with hw | ⟨host, hw⟩
  · exact W.putK hx hb (f := f) ⟨hown, hT _ hw _, ⟨_, _, _, hi2⟩, hst⟩ (by rw [q2]; exact h6) q1 q3 (by rw [hsl]; exact k2_hasslot (q4 kf hk)) rfl rfl hd done
  · exact va_WputK hx hb (f := f) hown (hT _ hw _) hi2 hst (by rw [q2]; exact h6) q1 q3 (by rw [hsl]; exact k2_hasslot (q4 kf hk)) rfl rfl hd done
theorem r_iald (C : Cx u p l s m meth c own cc nL D ca ρ) {kd i n : Nat} {f : Nat → Int32} {x : Int32} (hu : unit u kd = true) (hi : i < cnt kd) (hc : cellOf ca ρ S kd i = .inl (ca 0, n, .inl f)) (hin : vp_in x n) (hd : decode cc pc = .ok (.iaload, 1)) (k : wm u p l e R s m args below meth c D ca ρ nL cells slots Q (pc + 1) ls (.int (f x.toNatClampNeg) :: st) S) : wm u p l e R s m args below meth c D ca ρ nL cells slots Q (pc) ls (.int x :: .ref (ρ kd i) :: st) S := fun H locs la h1 h2 h3 => va_iald C.1 C.2.1 C.2.2.2.2.2.1 (h1.one hu hi hc) 0 0 rfl rfl hin hd (k H locs la h1 h2 h3)
theorem r_zald (C : Cx u p l s m meth c own cc nL D ca ρ) {kd i n : Nat} {f : Nat → Int32} {x : Int32} (hu : unit u kd = true) (hi : i < cnt kd) (hc : cellOf ca ρ S kd i = .inl (ca 3, n, .inl f)) (hin : vp_in x n) (hd : decode cc pc = .ok (.baload, 1)) (k : wm u p l e R s m args below meth c D ca ρ nL cells slots Q (pc + 1) ls (.int (f x.toNatClampNeg) :: st) S) : wm u p l e R s m args below meth c D ca ρ nL cells slots Q (pc) ls (.int x :: .ref (ρ kd i) :: st) S := fun H locs la h1 h2 h3 => va_zald C.1 C.2.1 C.2.2.2.2.2.1 (h1.one hu hi hc) 0 3 rfl rfl hin hd (k H locs la h1 h2 h3)
theorem r_lald (C : Cx u p l s m meth c own cc nL D ca ρ) {kd i n : Nat} {f : Nat → Int64} {x : Int32} (hu : unit u kd = true) (hi : i < cnt kd) (hc : cellOf ca ρ S kd i = .inl (ca 1, n, .inr (.inl f))) (hin : vp_in x n) (hd : decode cc pc = .ok (.laload, 1)) (k : wm u p l e R s m args below meth c D ca ρ nL cells slots Q (pc + 1) ls (.long (f x.toNatClampNeg) :: st) S) : wm u p l e R s m args below meth c D ca ρ nL cells slots Q (pc) ls (.int x :: .ref (ρ kd i) :: st) S := fun H locs la h1 h2 h3 => va_lald C.1 C.2.1 C.2.2.2.2.2.1 (h1.one hu hi hc) 0 1 rfl rfl hin hd (k H locs la h1 h2 h3)
theorem r_dald (C : Cx u p l s m meth c own cc nL D ca ρ) {kd i n : Nat} {f : Nat → UInt64} {x : Int32} (hu : unit u kd = true) (hi : i < cnt kd) (hc : cellOf ca ρ S kd i = .inl (ca 2, n, .inr (.inr (.inr (.inl f))))) (hin : vp_in x n) (hd : decode cc pc = .ok (.daload, 1)) (k : wm u p l e R s m args below meth c D ca ρ nL cells slots Q (pc + 1) ls (.double (f x.toNatClampNeg) :: st) S) : wm u p l e R s m args below meth c D ca ρ nL cells slots Q (pc) ls (.int x :: .ref (ρ kd i) :: st) S := fun H locs la h1 h2 h3 => va_dald C.1 C.2.1 C.2.2.2.2.2.1 (h1.one hu hi hc) 0 2 rfl rfl hin hd (k H locs la h1 h2 h3)
theorem r_aald10 (C : Cx u p l s m meth c own cc nL D ca ρ) {k0 n : Nat} {x : Int32} (hu : unit u k0 = true) (hi : 0 < cnt k0) (hc : cellOf ca ρ S k0 0 = .inl (ca 10, n, .inr (.inr (.inr (.inr (fun j => if j < n then some (ρ 0 j) else none)))))) (hin : vp_in x n) (hd : decode cc pc = .ok (.aaload, 1)) (k : wm u p l e R s m args below meth c D ca ρ nL cells slots Q (pc + 1) ls (.ref (ρ 0 x.toNatClampNeg) :: st) S) : wm u p l e R s m args below meth c D ca ρ nL cells slots Q (pc) ls (.int x :: .ref (ρ k0 0) :: st) S := by
  intro H locs la h1 h2 h3
  refine va_aldq C.1 C.2.1 C.2.2.2.2.2.1 (h1.one hu hi hc) 0 4 rfl rfl hin hd ?_
  rw [if_pos (Nat.not_le.mp fun q => hin (Or.inr q))]
  exact k H locs la h1 h2 h3
theorem r_aald13 (C : Cx u p l s m meth c own cc nL D ca ρ) {k0 n : Nat} {x : Int32} (hu : unit u k0 = true) (hi : 0 < cnt k0) (hc : cellOf ca ρ S k0 0 = .inl (ca 13, n, .inr (.inr (.inr (.inr (fun j => if j < n then some (ρ 3 j) else none)))))) (hin : vp_in x n) (hd : decode cc pc = .ok (.aaload, 1)) (k : wm u p l e R s m args below meth c D ca ρ nL cells slots Q (pc + 1) ls (.ref (ρ 3 x.toNatClampNeg) :: st) S) : wm u p l e R s m args below meth c D ca ρ nL cells slots Q (pc) ls (.int x :: .ref (ρ k0 0) :: st) S := by
  intro H locs la h1 h2 h3
  refine va_aldq C.1 C.2.1 C.2.2.2.2.2.1 (h1.one hu hi hc) 0 5 rfl rfl hin hd ?_
  rw [if_pos (Nat.not_le.mp fun q => hin (Or.inr q))]
  exact k H locs la h1 h2 h3
theorem r_aald14 (C : Cx u p l s m meth c own cc nL D ca ρ) {k0 n : Nat} {x : Int32} (hu : unit u k0 = true) (hi : 0 < cnt k0) (hc : cellOf ca ρ S k0 0 = .inl (ca 14, n, .inr (.inr (.inr (.inr (fun j => if j < n then some (ρ 4 j) else none)))))) (hin : vp_in x n) (hd : decode cc pc = .ok (.aaload, 1)) (k : wm u p l e R s m args below meth c D ca ρ nL cells slots Q (pc + 1) ls (.ref (ρ 4 x.toNatClampNeg) :: st) S) : wm u p l e R s m args below meth c D ca ρ nL cells slots Q (pc) ls (.int x :: .ref (ρ k0 0) :: st) S := by
  intro H locs la h1 h2 h3
  refine va_aldq C.1 C.2.1 C.2.2.2.2.2.1 (h1.one hu hi hc) 0 6 rfl rfl hin hd ?_
  rw [if_pos (Nat.not_le.mp fun q => hin (Or.inr q))]
  exact k H locs la h1 h2 h3
theorem r_alen (C : Cx u p l s m meth c own cc nL D ca ρ) {kd i n ti : Nat} {a : (Nat → Int32) ⊕ (Nat → Int64) ⊕ (Nat → UInt32) ⊕ (Nat → UInt64) ⊕ (Nat → Option Nat)} {ty : FieldType} (t0 : Nat) (hu : unit u kd = true) (hi : i < cnt kd) (hc : cellOf ca ρ S kd i = .inl (ca ti, n, a)) (ht : (tys ca)[t0]? = some (ca ti, ty)) (hd : decode cc pc = .ok (.arraylength, 1)) (k : wm u p l e R s m args below meth c D ca ρ nL cells slots Q (pc + 1) ls (.int (nI n) :: st) S) : wm u p l e R s m args below meth c D ca ρ nL cells slots Q (pc) ls (.ref (ρ kd i) :: st) S := fun H locs la h1 h2 h3 => va_alen (x := (n, a)) C.1 C.2.1 C.2.2.2.2.2.1 (h1.one hu hi hc) 0 t0 rfl ht rfl hd (k H locs la h1 h2 h3)
theorem r_iast (C : Cx u p l s m meth c own cc nL D ca ρ) {kd i n : Nat} {x : Int32} {v : Int32} (hu : unit u kd = true) (hi : i < cnt kd) (hn : ad kd i = some (0, n)) (hin : vp_in x n) (hd : decode cc pc = .ok (.iastore, 1)) (k : wm u p l e R s m args below meth c D ca ρ nL cells slots Q (pc + 1) ls st (sA S kd i x.toNatClampNeg v)) : wm u p l e R s m args below meth c D ca ρ nL cells slots Q (pc) ls (.int v :: .int x :: .ref (ρ kd i) :: st) S := by
  intro H locs la h1 h2 h3
  obtain ⟨hx, hb, hml, hown, hT, hK, hA, -⟩ := C
  have hat := h1 kd i hu hi
  have hc : cellOf ca ρ S kd i = .inl (ca 0, n, .inl (gA S kd i)) := by unfold cellOf; rw [hn]; rfl
  have hc' : cellOf ca ρ (sA S kd i x.toNatClampNeg v) kd i = .inl (ca 0, n, .inl (upd (gA S kd i) x.toNatClampNeg v)) := by
    unfold cellOf; rw [hn]
    show (Sum.inl (ca 0, n, .inl (gA (sA S kd i x.toNatClampNeg v) kd i)) : va_E) = _
    rw [sA_row]
  rw [hc] at hat
  refine W.iast hx hb hat ((hK.2 0 _ rfl).1 n (fun j => .int (gA S kd i j))) (fun q => by cases q) (by show ¬ (x < 0 ∨ (arrV _ _ _).slots.size ≤ _); rw [arrV_size]; exact hin) rfl rfl hd fun H1 e1 z oq => ?_
  refine k H1 _ la (h1.put hA hu hi ?_ oq same_A) (h2.put z oq (Or.inl ⟨kd, i, hu, hi, rfl⟩)) h3
  rw [hc']
  show H1[ρ kd i]? = some (vp_cell _ _)
  rw [e1]
  rw [vp_cell_i, vp_cell_i, arrV_store]
  congr 2
  funext q
  by_cases hq : q = x.toNatClampNeg
  · subst hq
    simp [updV, upd]
  · simp [updV, upd, hq]
theorem r_zast (C : Cx u p l s m meth c own cc nL D ca ρ) {kd i n : Nat} {x : Int32} {v : Int32} (hu : unit u kd = true) (hi : i < cnt kd) (hn : ad kd i = some (3, n)) (hz : vp_nar .boolean v = v) (hin : vp_in x n) (hd : decode cc pc = .ok (.bastore, 1)) (k : wm u p l e R s m args below meth c D ca ρ nL cells slots Q (pc + 1) ls st (sA S kd i x.toNatClampNeg v)) : wm u p l e R s m args below meth c D ca ρ nL cells slots Q (pc) ls (.int v :: .int x :: .ref (ρ kd i) :: st) S := by
  intro H locs la h1 h2 h3
  obtain ⟨hx, hb, hml, hown, hT, hK, hA, -⟩ := C
  have hat := h1 kd i hu hi
  have hc : cellOf ca ρ S kd i = .inl (ca 3, n, .inl (gA S kd i)) := by unfold cellOf; rw [hn]; rfl
  have hc' : cellOf ca ρ (sA S kd i x.toNatClampNeg v) kd i = .inl (ca 3, n, .inl (upd (gA S kd i) x.toNatClampNeg v)) := by
    unfold cellOf; rw [hn]
    show (Sum.inl (ca 3, n, .inl (gA (sA S kd i x.toNatClampNeg v) kd i)) : va_E) = _
    rw [sA_row]
  rw [hc] at hat
  refine W.zast hx hb hat ((hK.2 3 _ rfl).1 n (fun j => .int (gA S kd i j))) (fun q => by cases q) (by show ¬ (x < 0 ∨ (arrV _ _ _).slots.size ≤ _); rw [arrV_size]; exact hin) rfl rfl hd fun H1 e1 z oq => ?_
  refine k H1 _ la (h1.put hA hu hi ?_ oq same_A) (h2.put z oq (Or.inl ⟨kd, i, hu, hi, rfl⟩)) h3
  rw [hc']
  show H1[ρ kd i]? = some (vp_cell _ _)
  rw [e1]
  have hz2 : narrow .boolean (.int v) = .int v := by
    have : narrow .boolean (.int v) = .int (vp_nar .boolean v) := rfl
    rw [this, hz]
  rw [hz2]
  rw [vp_cell_i, vp_cell_i, arrV_store]
  congr 2
  funext q
  by_cases hq : q = x.toNatClampNeg
  · subst hq
    simp [updV, upd]
  · simp [updV, upd, hq]
theorem r_last (C : Cx u p l s m meth c own cc nL D ca ρ) {kd i n : Nat} {x : Int32} {v : Int64} (hu : unit u kd = true) (hi : i < cnt kd) (hn : ad kd i = some (1, n)) (hin : vp_in x n) (hd : decode cc pc = .ok (.lastore, 1)) (k : wm u p l e R s m args below meth c D ca ρ nL cells slots Q (pc + 1) ls st (sJ S kd i x.toNatClampNeg v)) : wm u p l e R s m args below meth c D ca ρ nL cells slots Q (pc) ls (.long v :: .int x :: .ref (ρ kd i) :: st) S := by
  intro H locs la h1 h2 h3
  obtain ⟨hx, hb, hml, hown, hT, hK, hA, -⟩ := C
  have hat := h1 kd i hu hi
  have hc : cellOf ca ρ S kd i = .inl (ca 1, n, .inr (.inl (gJ S kd i))) := by unfold cellOf; rw [hn]; rfl
  have hc' : cellOf ca ρ (sJ S kd i x.toNatClampNeg v) kd i = .inl (ca 1, n, .inr (.inl (vp_updL (gJ S kd i) x.toNatClampNeg v))) := by
    unfold cellOf; rw [hn]
    show (Sum.inl (ca 1, n, .inr (.inl (gJ (sJ S kd i x.toNatClampNeg v) kd i))) : va_E) = _
    rw [sJ_row]
  rw [hc] at hat
  refine W.last hx hb hat ((hK.2 1 _ rfl).1 n (fun j => .long (gJ S kd i j))) (fun q => by cases q) (by show ¬ (x < 0 ∨ (arrV _ _ _).slots.size ≤ _); rw [arrV_size]; exact hin) rfl rfl hd fun H1 e1 z oq => ?_
  refine k H1 _ la (h1.put hA hu hi ?_ oq same_J) (h2.put z oq (Or.inl ⟨kd, i, hu, hi, rfl⟩)) h3
  rw [hc']
  show H1[ρ kd i]? = some (vp_cell _ _)
  rw [e1]
  rw [vp_cell_l, vp_cell_l, arrV_store]
  congr 2
  funext q
  by_cases hq : q = x.toNatClampNeg
  · subst hq
    simp [updV, vp_updL]
  · simp [updV, vp_updL, hq]
theorem r_dast (C : Cx u p l s m meth c own cc nL D ca ρ) {kd i n : Nat} {x : Int32} {v : UInt64} (hu : unit u kd = true) (hi : i < cnt kd) (hn : ad kd i = some (2, n)) (hin : vp_in x n) (hd : decode cc pc = .ok (.dastore, 1)) (k : wm u p l e R s m args below meth c D ca ρ nL cells slots Q (pc + 1) ls st (sD S kd i x.toNatClampNeg v)) : wm u p l e R s m args below meth c D ca ρ nL cells slots Q (pc) ls (.double v :: .int x :: .ref (ρ kd i) :: st) S := by
  intro H locs la h1 h2 h3
  obtain ⟨hx, hb, hml, hown, hT, hK, hA, -⟩ := C
  have hat := h1 kd i hu hi
  have hc : cellOf ca ρ S kd i = .inl (ca 2, n, .inr (.inr (.inr (.inl (gD S kd i))))) := by unfold cellOf; rw [hn]; rfl
  have hc' : cellOf ca ρ (sD S kd i x.toNatClampNeg v) kd i = .inl (ca 2, n, .inr (.inr (.inr (.inl (vf_upd (gD S kd i) x.toNatClampNeg v))))) := by
    unfold cellOf; rw [hn]
    show (Sum.inl (ca 2, n, .inr (.inr (.inr (.inl (gD (sD S kd i x.toNatClampNeg v) kd i))))) : va_E) = _
    rw [sD_row]
  rw [hc] at hat
  refine W.dast hx hb hat ((hK.2 2 _ rfl).1 n (fun j => .double (gD S kd i j))) (fun q => by cases q) (by show ¬ (x < 0 ∨ (arrV _ _ _).slots.size ≤ _); rw [arrV_size]; exact hin) rfl rfl hd fun H1 e1 z oq => ?_
  refine k H1 _ la (h1.put hA hu hi ?_ oq same_D) (h2.put z oq (Or.inl ⟨kd, i, hu, hi, rfl⟩)) h3
  rw [hc']
  show H1[ρ kd i]? = some (vp_cell _ _)
  rw [e1]
  rw [vp_cell_d, vp_cell_d, arrV_store]
  congr 2
  funext q
  by_cases hq : q = x.toNatClampNeg
  · subst hq
    simp [updV, vf_upd]
  · simp [updV, vf_upd, hq]
theorem r_iret (C : Cx u p l s m meth c own cc nL D ca ρ) {v : Int32} {Qm : Int32 → St → Prop} (hr : meth.sig.returnType = some .int) (hd : decode cc pc = .ok (.ireturn, 1)) (hq : Qm v S) : wm u p l e R s m args below meth c D ca ρ nL cells slots (qi u below args s D ca ρ cells slots Qm) pc ls [.int v] S := by
  intro H locs la h1 h2 h3
  have hlk := C.2.2.2.2.2.2.2
  exact W.iret C.1 C.2.1 hr (fun t ht hW => ⟨⟨v, S, rfl, hq, by unfold PostU; rw [ht]; exact h1⟩, h2.F ht⟩) h2.2.2 hd hlk
theorem r_lret (C : Cx u p l s m meth c own cc nL D ca ρ) {v : Int64} {Qm : Int64 → St → Prop} (hr : meth.sig.returnType = some .long) (hd : decode cc pc = .ok (.lreturn, 1)) (hq : Qm v S) : wm u p l e R s m args below meth c D ca ρ nL cells slots (ql u below args s D ca ρ cells slots Qm) pc ls [.long v] S := by
  intro H locs la h1 h2 h3
  have hlk := C.2.2.2.2.2.2.2
  exact W.lret C.1 C.2.1 hr (fun t ht hW => ⟨⟨v, S, rfl, hq, by unfold PostU; rw [ht]; exact h1⟩, h2.F ht⟩) h2.2.2 hd hlk
theorem r_dret (C : Cx u p l s m meth c own cc nL D ca ρ) {v : UInt64} {Qm : UInt64 → St → Prop} (hr : meth.sig.returnType = some .double) (hd : decode cc pc = .ok (.dreturn, 1)) (hq : Qm v S) : wm u p l e R s m args below meth c D ca ρ nL cells slots (qd u below args s D ca ρ cells slots Qm) pc ls [.double v] S := by
  intro H locs la h1 h2 h3
  have hlk := C.2.2.2.2.2.2.2
  exact W.dret C.1 C.2.1 hr (fun t ht hW => ⟨⟨v, S, rfl, hq, by unfold PostU; rw [ht]; exact h1⟩, h2.F ht⟩) h2.2.2 hd hlk
theorem r_zret (C : Cx u p l s m meth c own cc nL D ca ρ) {v : Int32} {Qm : Int32 → St → Prop} (hr : meth.sig.returnType = some .boolean) (hz : narrow .boolean (.int v) = .int v) (hd : decode cc pc = .ok (.ireturn, 1)) (hq : Qm v S) : wm u p l e R s m args below meth c D ca ρ nL cells slots (qi u below args s D ca ρ cells slots Qm) pc ls [.int v] S := by
  intro H locs la h1 h2 h3
  have hlk := C.2.2.2.2.2.2.2
  exact W.zret C.1 C.2.1 hr hz (fun t ht hW => ⟨⟨v, S, rfl, hq, by unfold PostU; rw [ht]; exact h1⟩, h2.F ht⟩) h2.2.2 hd hlk
theorem r_vret (C : Cx u p l s m meth c own cc nL D ca ρ) {Qm : St → Prop} (hr : meth.sig.returnType = none) (hd : decode cc pc = .ok (.return_, 1)) (hq : Qm S) : wm u p l e R s m args below meth c D ca ρ nL cells slots (qv u below args s D ca ρ cells slots Qm) pc ls [] S := by
  intro H locs la h1 h2 h3
  have hlk := C.2.2.2.2.2.2.2
  exact W.vret C.1 C.2.1 hr (fun t ht hW => ⟨⟨S, rfl, hq, by unfold PostU; rw [ht]; exact h1⟩, h2.F ht⟩) h2.2.2 hd hlk
end ROWS
/-- what a call needs of the tables, by the method called -/
def MfV (y : MethodName) (b : ByteArray) (mL : Nat) (ret : Option FieldType) (n : Nat) : Prop := Cond.instanceMethod y ∈ tbl ∧ Cond.selects y.cls y y ∈ tbl ∧ Cond.initialized y.cls ∈ tbl ∧ Cond.code y b mL ret ∈ tbl ∧ (y.cls ≠ "java/lang/invoke/MethodHandle" ∧ y.cls ≠ "java/lang/invoke/VarHandle" ∧ (parseMethodDescriptor y.desc).map (fun d => d.parameters.length) = some n)
def MfS (y : MethodName) (b : ByteArray) (mL : Nat) (ret : Option FieldType) (n : Nat) : Prop := Cond.static y ∈ tbl ∧ Cond.initialized y.cls ∈ tbl ∧ Cond.code y b mL ret ∈ tbl ∧ (y.cls ≠ "java/lang/invoke/MethodHandle" ∧ y.cls ≠ "java/lang/invoke/VarHandle" ∧ (parseMethodDescriptor y.desc).map (fun d => d.parameters.length) = some n)
theorem gi_code {s : State} (hT : Tb s) {y : MethodName} {b : ByteArray} {mL : Nat} {ret : Option FieldType} (h : Cond.code y b mL ret ∈ tbl) : ∀ w ∈ [Cond.code y b mL ret], w.before #[] s = true := fun w hw => by cases List.mem_singleton.mp hw; exact hT _ h _
theorem callB_mk {R : Room} {s : State} {args : Array Value} {own : String} {index : Nat} {y : MethodName} {b : ByteArray} {mL : Nat} {ret : Option FieldType} {rm : Room} {mc ms : Nat} (n : Nat) (hT : Tb s) (hC : Cond.code y b mL ret ∈ tbl) (hN : Cond.initialized y.cls ∈ tbl) (hL : Cond.methodLink own index y ∈ tbl) (hrc : rm.cells = mc) (hrs : rm.slots = ms)
    (hd : y.cls ≠ "java/lang/invoke/MethodHandle" ∧ y.cls ≠ "java/lang/invoke/VarHandle" ∧ (parseMethodDescriptor y.desc).map (fun d => d.parameters.length) = some n) (hR : rm.frames + 1 ≤ R.frames ∧ 8 + (mL + 11) + rm.locals ≤ R.locals) : CallB R s args own index y b mL ret [Cond.code y b mL ret] rm mc ms n :=
  callB_of (ws' := []) (Ts := [Cond.code y b mL ret]) n (fun w hw => by cases List.mem_singleton.mp hw; exact hT _ hC _) (fun w hw => ⟨hw, by cases List.mem_singleton.mp hw; exact Or.inl rfl⟩) rfl hrc hrs (hT _ hN _) (hT _ hL _) hd hR
theorem callN_mk {R : Room} {s : State} {args : Array Value} {own host : String} {index : Nat} {y : MethodName} {b : ByteArray} {mL : Nat} {ret : Option FieldType} {rm : Room} {mc ms : Nat} (n : Nat) (hT : Tb s) (hC : Cond.code y b mL ret ∈ tbl) (hN : Cond.initialized y.cls ∈ tbl) (hL : Cond.methodLinkNest own index y host ∈ tbl) (hrc : rm.cells = mc) (hrs : rm.slots = ms)
    (hd : y.cls ≠ "java/lang/invoke/MethodHandle" ∧ y.cls ≠ "java/lang/invoke/VarHandle" ∧ (parseMethodDescriptor y.desc).map (fun d => d.parameters.length) = some n) (hR : rm.frames + 1 ≤ R.frames ∧ 8 + (mL + 11) + rm.locals ≤ R.locals) : va_CN R s args own index y host b mL ret [Cond.code y b mL ret] rm mc ms n :=
  va_cnB (ws' := []) (Ts := [Cond.code y b mL ret]) n (fun w hw => by cases List.mem_singleton.mp hw; exact hT _ hC _) (fun w hw => ⟨hw, by cases List.mem_singleton.mp hw; exact Or.inl rfl⟩) rfl hrc hrs (hT _ hL _) (hT _ hN _) hd hR
theorem PreU.blind {u : Bool} {D : va_G} {ca : Nat → ClassId} {ρ : Nat → Nat → Nat} {sz : Nat} {S : St} {As : List Value} : FrameBlind (va_Pc As (PreU u D ca ρ sz S)) := by
  intro a U g mk h
  obtain ⟨rfl, h1, h2, h3, h4⟩ := h
  exact ⟨rfl, h1, h2.warm (State.WarmedH.refl U), va_K.moved (Vm.Alike.refl U.vm) h3, h4⟩
theorem Ar.le {u : Bool} {ρ : Nat → Nat → Nat} {a b : Nat} (h : a ≤ b) {q : Nat} (hq : Ar u ρ b q) : Ar u ρ a q := hq.imp id (Nat.le_trans h)
section CALLS
variable {u : Bool} {p : Program} {l : Launch} {e : Env} {R : Room} {s : State} {m : MethodId} {args : Array Value} {below : List Frame} {meth : Method} {c : Code} {D : va_G} {ca : Nat → ClassId} {ρ : Nat → Nat → Nat} {nL cells slots : Nat} {Q : State → Prop} {pc : Nat} {ls : List (Nat × Value)} {st : List Value} {S : St} {own : String} {cc : ByteArray}
theorem r_callVi (C : Cx u p l s m meth c own cc nL D ca ρ) {kd i index mL n : Nat} {y : MethodName} {b : ByteArray} {ret : Option FieldType} {rm : Room} {As rest : List Value} {Qm : Int32 → St → Prop} {T : u_T} {N : Nat} {fs : List Value} (hM : ∀ sz, Met l y [Cond.code y b mL ret] rm (va_Pc (.ref (ρ kd i) :: As) (PreU u D ca ρ sz S)) (va_Qi Qm (PostU u D ca ρ) (Ar u ρ sz)) 0 0 (Ar u ρ sz)) (mf : MfV y b mL ret n) (hL : Cond.methodLink own index y ∈ tbl) (hu : unit u kd = true) (hi : i < cnt kd) (hc : cellOf ca ρ S kd i = .inr (kd, fs)) (hcl : classes[kd]? = some (y.cls, T, N)) (hrc : rm.cells = 0) (hrs : rm.slots = 0) (hR : rm.frames + 1 ≤ R.frames ∧ 8 + (mL + 11) + rm.locals ≤ R.locals) (hn : As.length = n) (hst : st = As.reverse ++ .ref (ρ kd i) :: rest) (hW : (rest.map fun v => v.category).sum ≤ 8) (hcs : cells ≤ R.cells ∧ slots ≤ R.slots) (hd : decode cc pc = .ok (.invokevirtual index, 3)) (k : ∀ r S', Qm r S' → wm u p l e R s m args below meth c D ca ρ nL cells slots Q (pc + 3) ls (.int r :: rest) S') : wm u p l e R s m args below meth c D ca ρ nL cells slots Q (pc) ls st S := by
  intro H locs la h1 h2 h3
  obtain ⟨hI, hS, hN, hC, hd2⟩ := mf
  have hrecv : ∃ cell : Cell, H[ρ kd i]? = some cell ∧ cell.vm.isStatics = false ∧ s.vm.findClass y.cls = some cell.cls := va_recv C.2.2.2.2.2.1 (h1.one hu hi hc) (ci := kd) (q0 := 0) hcl rfl
  refine va_calli (va_runV (Ts := tbl) (As := As) (rest := rest) ⟨C.1, C.2.1, C.2.2.1, C.2.2.2.1, fun w hw => C.2.2.2.2.1 w hw _⟩ (hM H.size) ⟨callB_mk n C.2.2.2.2.1 hC hN hL hrc hrs hd2 hR, C.2.2.2.2.1 _ hI _, C.2.2.2.2.1 _ hS _⟩ ⟨PreU.blind, hrecv, fun U hU hWm => ⟨rfl, by rw [hU], C.2.2.2.2.1.warm hWm, va_K.moved hWm.alike C.2.2.2.2.2.1, by rw [hU]; exact h1⟩⟩ rfl hn h3.1 hst (lv_room hW) hd ⟨hcs.1, hcs.2⟩) h2 (fun q _ h => Ar.le h2.1 h) (fun q h => Ar.le h2.1 h) (fun r s2 t H1 locs1 e1 hvm hq hb hz hk hS => k r s2 hq H1 locs1 la (by unfold PostU at hb; rw [← e1]; exact hb) hS h3)
theorem r_callSi (C : Cx u p l s m meth c own cc nL D ca ρ) {index mL n : Nat} {y : MethodName} {b : ByteArray} {ret : Option FieldType} {rm : Room} {As rest : List Value} {Qm : Int32 → St → Prop} (hM : ∀ sz, Met l y [Cond.code y b mL ret] rm (va_Pc As (PreU u D ca ρ sz S)) (va_Qi Qm (PostU u D ca ρ) (Ar u ρ sz)) 0 0 (Ar u ρ sz)) (mf : MfS y b mL ret n) (hL : Cond.methodLink own index y ∈ tbl) (hrc : rm.cells = 0) (hrs : rm.slots = 0) (hR : rm.frames + 1 ≤ R.frames ∧ 8 + (mL + 11) + rm.locals ≤ R.locals) (hn : As.length = n) (hst : st = As.reverse ++ rest) (hW : (rest.map fun v => v.category).sum ≤ 8) (hcs : cells ≤ R.cells ∧ slots ≤ R.slots) (hd : decode cc pc = .ok (.invokestatic index, 3)) (k : ∀ r S', Qm r S' → wm u p l e R s m args below meth c D ca ρ nL cells slots Q (pc + 3) ls (.int r :: rest) S') : wm u p l e R s m args below meth c D ca ρ nL cells slots Q (pc) ls st S := by
  intro H locs la h1 h2 h3
  obtain ⟨hI, hN, hC, hd2⟩ := mf
  refine va_calli (va_runS (Ts := tbl) (As := As) (rest := rest) ⟨C.1, C.2.1, C.2.2.1, C.2.2.2.1, fun w hw => C.2.2.2.2.1 w hw _⟩ (hM H.size) ⟨callB_mk n C.2.2.2.2.1 hC hN hL hrc hrs hd2 hR, C.2.2.2.2.1 _ hI _⟩ ⟨PreU.blind, fun U hU hWm => ⟨rfl, by rw [hU], C.2.2.2.2.1.warm hWm, va_K.moved hWm.alike C.2.2.2.2.2.1, by rw [hU]; exact h1⟩⟩ rfl hn h3.1 hst (lv_room hW) hd ⟨hcs.1, hcs.2⟩) h2 (fun q _ h => Ar.le h2.1 h) (fun q h => Ar.le h2.1 h) (fun r s2 t H1 locs1 e1 hvm hq hb hz hk hS => k r s2 hq H1 locs1 la (by unfold PostU at hb; rw [← e1]; exact hb) hS h3)
theorem r_callNi (C : Cx u p l s m meth c own cc nL D ca ρ) {index mL n : Nat} {y : MethodName} {host : String} {b : ByteArray} {ret : Option FieldType} {rm : Room} {As rest : List Value} {Qm : Int32 → St → Prop} (hM : ∀ sz, Met l y [Cond.code y b mL ret] rm (va_Pc As (PreU u D ca ρ sz S)) (va_Qi Qm (PostU u D ca ρ) (Ar u ρ sz)) 0 0 (Ar u ρ sz)) (mf : MfS y b mL ret n) (hL : Cond.methodLinkNest own index y host ∈ tbl) (hrc : rm.cells = 0) (hrs : rm.slots = 0) (hR : rm.frames + 1 ≤ R.frames ∧ 8 + (mL + 11) + rm.locals ≤ R.locals) (hn : As.length = n) (hst : st = As.reverse ++ rest) (hW : (rest.map fun v => v.category).sum ≤ 8) (hcs : cells ≤ R.cells ∧ slots ≤ R.slots) (hd : decode cc pc = .ok (.invokestatic index, 3)) (k : ∀ r S', Qm r S' → wm u p l e R s m args below meth c D ca ρ nL cells slots Q (pc + 3) ls (.int r :: rest) S') : wm u p l e R s m args below meth c D ca ρ nL cells slots Q (pc) ls st S := by
  intro H locs la h1 h2 h3
  obtain ⟨hI, hN, hC, hd2⟩ := mf
  refine va_calli (va_runSN (Ts := tbl) (As := As) (rest := rest) ⟨C.1, C.2.1, C.2.2.1, C.2.2.2.1, fun w hw => C.2.2.2.2.1 w hw _⟩ (hM H.size) ⟨callN_mk n C.2.2.2.2.1 hC hN hL hrc hrs hd2 hR, C.2.2.2.2.1 _ hI _, trivial⟩ ⟨PreU.blind, fun U hU hWm => ⟨rfl, by rw [hU], C.2.2.2.2.1.warm hWm, va_K.moved hWm.alike C.2.2.2.2.2.1, by rw [hU]; exact h1⟩⟩ rfl hn h3.1 hst (lv_room hW) hd ⟨hcs.1, hcs.2⟩) h2 (fun q _ h => Ar.le h2.1 h) (fun q h => Ar.le h2.1 h) (fun r s2 t H1 locs1 e1 hvm hq hb hz hk hS => k r s2 hq H1 locs1 la (by unfold PostU at hb; rw [← e1]; exact hb) hS h3)
theorem r_callVl (C : Cx u p l s m meth c own cc nL D ca ρ) {kd i index mL n : Nat} {y : MethodName} {b : ByteArray} {ret : Option FieldType} {rm : Room} {As rest : List Value} {Qm : Int64 → St → Prop} {T : u_T} {N : Nat} {fs : List Value} (hM : ∀ sz, Met l y [Cond.code y b mL ret] rm (va_Pc (.ref (ρ kd i) :: As) (PreU u D ca ρ sz S)) (va_Ql Qm (PostU u D ca ρ) (Ar u ρ sz)) 0 0 (Ar u ρ sz)) (mf : MfV y b mL ret n) (hL : Cond.methodLink own index y ∈ tbl) (hu : unit u kd = true) (hi : i < cnt kd) (hc : cellOf ca ρ S kd i = .inr (kd, fs)) (hcl : classes[kd]? = some (y.cls, T, N)) (hrc : rm.cells = 0) (hrs : rm.slots = 0) (hR : rm.frames + 1 ≤ R.frames ∧ 8 + (mL + 11) + rm.locals ≤ R.locals) (hn : As.length = n) (hst : st = As.reverse ++ .ref (ρ kd i) :: rest) (hW : (rest.map fun v => v.category).sum ≤ 8) (hcs : cells ≤ R.cells ∧ slots ≤ R.slots) (hd : decode cc pc = .ok (.invokevirtual index, 3)) (k : ∀ r S', Qm r S' → wm u p l e R s m args below meth c D ca ρ nL cells slots Q (pc + 3) ls (.long r :: rest) S') : wm u p l e R s m args below meth c D ca ρ nL cells slots Q (pc) ls st S := by
  intro H locs la h1 h2 h3
  obtain ⟨hI, hS, hN, hC, hd2⟩ := mf
  have hrecv : ∃ cell : Cell, H[ρ kd i]? = some cell ∧ cell.vm.isStatics = false ∧ s.vm.findClass y.cls = some cell.cls := va_recv C.2.2.2.2.2.1 (h1.one hu hi hc) (ci := kd) (q0 := 0) hcl rfl
  refine va_calll (va_runV (Ts := tbl) (As := As) (rest := rest) ⟨C.1, C.2.1, C.2.2.1, C.2.2.2.1, fun w hw => C.2.2.2.2.1 w hw _⟩ (hM H.size) ⟨callB_mk n C.2.2.2.2.1 hC hN hL hrc hrs hd2 hR, C.2.2.2.2.1 _ hI _, C.2.2.2.2.1 _ hS _⟩ ⟨PreU.blind, hrecv, fun U hU hWm => ⟨rfl, by rw [hU], C.2.2.2.2.1.warm hWm, va_K.moved hWm.alike C.2.2.2.2.2.1, by rw [hU]; exact h1⟩⟩ rfl hn h3.1 hst (lv_room hW) hd ⟨hcs.1, hcs.2⟩) h2 (fun q _ h => Ar.le h2.1 h) (fun q h => Ar.le h2.1 h) (fun r s2 t H1 locs1 e1 hvm hq hb hz hk hS => k r s2 hq H1 locs1 la (by unfold PostU at hb; rw [← e1]; exact hb) hS h3)
theorem r_callSl (C : Cx u p l s m meth c own cc nL D ca ρ) {index mL n : Nat} {y : MethodName} {b : ByteArray} {ret : Option FieldType} {rm : Room} {As rest : List Value} {Qm : Int64 → St → Prop} (hM : ∀ sz, Met l y [Cond.code y b mL ret] rm (va_Pc As (PreU u D ca ρ sz S)) (va_Ql Qm (PostU u D ca ρ) (Ar u ρ sz)) 0 0 (Ar u ρ sz)) (mf : MfS y b mL ret n) (hL : Cond.methodLink own index y ∈ tbl) (hrc : rm.cells = 0) (hrs : rm.slots = 0) (hR : rm.frames + 1 ≤ R.frames ∧ 8 + (mL + 11) + rm.locals ≤ R.locals) (hn : As.length = n) (hst : st = As.reverse ++ rest) (hW : (rest.map fun v => v.category).sum ≤ 8) (hcs : cells ≤ R.cells ∧ slots ≤ R.slots) (hd : decode cc pc = .ok (.invokestatic index, 3)) (k : ∀ r S', Qm r S' → wm u p l e R s m args below meth c D ca ρ nL cells slots Q (pc + 3) ls (.long r :: rest) S') : wm u p l e R s m args below meth c D ca ρ nL cells slots Q (pc) ls st S := by
  intro H locs la h1 h2 h3
  obtain ⟨hI, hN, hC, hd2⟩ := mf
  refine va_calll (va_runS (Ts := tbl) (As := As) (rest := rest) ⟨C.1, C.2.1, C.2.2.1, C.2.2.2.1, fun w hw => C.2.2.2.2.1 w hw _⟩ (hM H.size) ⟨callB_mk n C.2.2.2.2.1 hC hN hL hrc hrs hd2 hR, C.2.2.2.2.1 _ hI _⟩ ⟨PreU.blind, fun U hU hWm => ⟨rfl, by rw [hU], C.2.2.2.2.1.warm hWm, va_K.moved hWm.alike C.2.2.2.2.2.1, by rw [hU]; exact h1⟩⟩ rfl hn h3.1 hst (lv_room hW) hd ⟨hcs.1, hcs.2⟩) h2 (fun q _ h => Ar.le h2.1 h) (fun q h => Ar.le h2.1 h) (fun r s2 t H1 locs1 e1 hvm hq hb hz hk hS => k r s2 hq H1 locs1 la (by unfold PostU at hb; rw [← e1]; exact hb) hS h3)
theorem r_callNl (C : Cx u p l s m meth c own cc nL D ca ρ) {index mL n : Nat} {y : MethodName} {host : String} {b : ByteArray} {ret : Option FieldType} {rm : Room} {As rest : List Value} {Qm : Int64 → St → Prop} (hM : ∀ sz, Met l y [Cond.code y b mL ret] rm (va_Pc As (PreU u D ca ρ sz S)) (va_Ql Qm (PostU u D ca ρ) (Ar u ρ sz)) 0 0 (Ar u ρ sz)) (mf : MfS y b mL ret n) (hL : Cond.methodLinkNest own index y host ∈ tbl) (hrc : rm.cells = 0) (hrs : rm.slots = 0) (hR : rm.frames + 1 ≤ R.frames ∧ 8 + (mL + 11) + rm.locals ≤ R.locals) (hn : As.length = n) (hst : st = As.reverse ++ rest) (hW : (rest.map fun v => v.category).sum ≤ 8) (hcs : cells ≤ R.cells ∧ slots ≤ R.slots) (hd : decode cc pc = .ok (.invokestatic index, 3)) (k : ∀ r S', Qm r S' → wm u p l e R s m args below meth c D ca ρ nL cells slots Q (pc + 3) ls (.long r :: rest) S') : wm u p l e R s m args below meth c D ca ρ nL cells slots Q (pc) ls st S := by
  intro H locs la h1 h2 h3
  obtain ⟨hI, hN, hC, hd2⟩ := mf
  refine va_calll (va_runSN (Ts := tbl) (As := As) (rest := rest) ⟨C.1, C.2.1, C.2.2.1, C.2.2.2.1, fun w hw => C.2.2.2.2.1 w hw _⟩ (hM H.size) ⟨callN_mk n C.2.2.2.2.1 hC hN hL hrc hrs hd2 hR, C.2.2.2.2.1 _ hI _, trivial⟩ ⟨PreU.blind, fun U hU hWm => ⟨rfl, by rw [hU], C.2.2.2.2.1.warm hWm, va_K.moved hWm.alike C.2.2.2.2.2.1, by rw [hU]; exact h1⟩⟩ rfl hn h3.1 hst (lv_room hW) hd ⟨hcs.1, hcs.2⟩) h2 (fun q _ h => Ar.le h2.1 h) (fun q h => Ar.le h2.1 h) (fun r s2 t H1 locs1 e1 hvm hq hb hz hk hS => k r s2 hq H1 locs1 la (by unfold PostU at hb; rw [← e1]; exact hb) hS h3)
theorem r_callVd (C : Cx u p l s m meth c own cc nL D ca ρ) {kd i index mL n : Nat} {y : MethodName} {b : ByteArray} {ret : Option FieldType} {rm : Room} {As rest : List Value} {Qm : UInt64 → St → Prop} {T : u_T} {N : Nat} {fs : List Value} (hM : ∀ sz, Met l y [Cond.code y b mL ret] rm (va_Pc (.ref (ρ kd i) :: As) (PreU u D ca ρ sz S)) (va_Qd Qm (PostU u D ca ρ) (Ar u ρ sz)) 0 0 (Ar u ρ sz)) (mf : MfV y b mL ret n) (hL : Cond.methodLink own index y ∈ tbl) (hu : unit u kd = true) (hi : i < cnt kd) (hc : cellOf ca ρ S kd i = .inr (kd, fs)) (hcl : classes[kd]? = some (y.cls, T, N)) (hrc : rm.cells = 0) (hrs : rm.slots = 0) (hR : rm.frames + 1 ≤ R.frames ∧ 8 + (mL + 11) + rm.locals ≤ R.locals) (hn : As.length = n) (hst : st = As.reverse ++ .ref (ρ kd i) :: rest) (hW : (rest.map fun v => v.category).sum ≤ 8) (hcs : cells ≤ R.cells ∧ slots ≤ R.slots) (hd : decode cc pc = .ok (.invokevirtual index, 3)) (k : ∀ r S', Qm r S' → wm u p l e R s m args below meth c D ca ρ nL cells slots Q (pc + 3) ls (.double r :: rest) S') : wm u p l e R s m args below meth c D ca ρ nL cells slots Q (pc) ls st S := by
  intro H locs la h1 h2 h3
  obtain ⟨hI, hS, hN, hC, hd2⟩ := mf
  have hrecv : ∃ cell : Cell, H[ρ kd i]? = some cell ∧ cell.vm.isStatics = false ∧ s.vm.findClass y.cls = some cell.cls := va_recv C.2.2.2.2.2.1 (h1.one hu hi hc) (ci := kd) (q0 := 0) hcl rfl
  refine va_calld (va_runV (Ts := tbl) (As := As) (rest := rest) ⟨C.1, C.2.1, C.2.2.1, C.2.2.2.1, fun w hw => C.2.2.2.2.1 w hw _⟩ (hM H.size) ⟨callB_mk n C.2.2.2.2.1 hC hN hL hrc hrs hd2 hR, C.2.2.2.2.1 _ hI _, C.2.2.2.2.1 _ hS _⟩ ⟨PreU.blind, hrecv, fun U hU hWm => ⟨rfl, by rw [hU], C.2.2.2.2.1.warm hWm, va_K.moved hWm.alike C.2.2.2.2.2.1, by rw [hU]; exact h1⟩⟩ rfl hn h3.1 hst (lv_room hW) hd ⟨hcs.1, hcs.2⟩) h2 (fun q _ h => Ar.le h2.1 h) (fun q h => Ar.le h2.1 h) (fun r s2 t H1 locs1 e1 hvm hq hb hz hk hS => k r s2 hq H1 locs1 la (by unfold PostU at hb; rw [← e1]; exact hb) hS h3)
theorem r_callSd (C : Cx u p l s m meth c own cc nL D ca ρ) {index mL n : Nat} {y : MethodName} {b : ByteArray} {ret : Option FieldType} {rm : Room} {As rest : List Value} {Qm : UInt64 → St → Prop} (hM : ∀ sz, Met l y [Cond.code y b mL ret] rm (va_Pc As (PreU u D ca ρ sz S)) (va_Qd Qm (PostU u D ca ρ) (Ar u ρ sz)) 0 0 (Ar u ρ sz)) (mf : MfS y b mL ret n) (hL : Cond.methodLink own index y ∈ tbl) (hrc : rm.cells = 0) (hrs : rm.slots = 0) (hR : rm.frames + 1 ≤ R.frames ∧ 8 + (mL + 11) + rm.locals ≤ R.locals) (hn : As.length = n) (hst : st = As.reverse ++ rest) (hW : (rest.map fun v => v.category).sum ≤ 8) (hcs : cells ≤ R.cells ∧ slots ≤ R.slots) (hd : decode cc pc = .ok (.invokestatic index, 3)) (k : ∀ r S', Qm r S' → wm u p l e R s m args below meth c D ca ρ nL cells slots Q (pc + 3) ls (.double r :: rest) S') : wm u p l e R s m args below meth c D ca ρ nL cells slots Q (pc) ls st S := by
  intro H locs la h1 h2 h3
  obtain ⟨hI, hN, hC, hd2⟩ := mf
  refine va_calld (va_runS (Ts := tbl) (As := As) (rest := rest) ⟨C.1, C.2.1, C.2.2.1, C.2.2.2.1, fun w hw => C.2.2.2.2.1 w hw _⟩ (hM H.size) ⟨callB_mk n C.2.2.2.2.1 hC hN hL hrc hrs hd2 hR, C.2.2.2.2.1 _ hI _⟩ ⟨PreU.blind, fun U hU hWm => ⟨rfl, by rw [hU], C.2.2.2.2.1.warm hWm, va_K.moved hWm.alike C.2.2.2.2.2.1, by rw [hU]; exact h1⟩⟩ rfl hn h3.1 hst (lv_room hW) hd ⟨hcs.1, hcs.2⟩) h2 (fun q _ h => Ar.le h2.1 h) (fun q h => Ar.le h2.1 h) (fun r s2 t H1 locs1 e1 hvm hq hb hz hk hS => k r s2 hq H1 locs1 la (by unfold PostU at hb; rw [← e1]; exact hb) hS h3)
theorem r_callNd (C : Cx u p l s m meth c own cc nL D ca ρ) {index mL n : Nat} {y : MethodName} {host : String} {b : ByteArray} {ret : Option FieldType} {rm : Room} {As rest : List Value} {Qm : UInt64 → St → Prop} (hM : ∀ sz, Met l y [Cond.code y b mL ret] rm (va_Pc As (PreU u D ca ρ sz S)) (va_Qd Qm (PostU u D ca ρ) (Ar u ρ sz)) 0 0 (Ar u ρ sz)) (mf : MfS y b mL ret n) (hL : Cond.methodLinkNest own index y host ∈ tbl) (hrc : rm.cells = 0) (hrs : rm.slots = 0) (hR : rm.frames + 1 ≤ R.frames ∧ 8 + (mL + 11) + rm.locals ≤ R.locals) (hn : As.length = n) (hst : st = As.reverse ++ rest) (hW : (rest.map fun v => v.category).sum ≤ 8) (hcs : cells ≤ R.cells ∧ slots ≤ R.slots) (hd : decode cc pc = .ok (.invokestatic index, 3)) (k : ∀ r S', Qm r S' → wm u p l e R s m args below meth c D ca ρ nL cells slots Q (pc + 3) ls (.double r :: rest) S') : wm u p l e R s m args below meth c D ca ρ nL cells slots Q (pc) ls st S := by
  intro H locs la h1 h2 h3
  obtain ⟨hI, hN, hC, hd2⟩ := mf
  refine va_calld (va_runSN (Ts := tbl) (As := As) (rest := rest) ⟨C.1, C.2.1, C.2.2.1, C.2.2.2.1, fun w hw => C.2.2.2.2.1 w hw _⟩ (hM H.size) ⟨callN_mk n C.2.2.2.2.1 hC hN hL hrc hrs hd2 hR, C.2.2.2.2.1 _ hI _, trivial⟩ ⟨PreU.blind, fun U hU hWm => ⟨rfl, by rw [hU], C.2.2.2.2.1.warm hWm, va_K.moved hWm.alike C.2.2.2.2.2.1, by rw [hU]; exact h1⟩⟩ rfl hn h3.1 hst (lv_room hW) hd ⟨hcs.1, hcs.2⟩) h2 (fun q _ h => Ar.le h2.1 h) (fun q h => Ar.le h2.1 h) (fun r s2 t H1 locs1 e1 hvm hq hb hz hk hS => k r s2 hq H1 locs1 la (by unfold PostU at hb; rw [← e1]; exact hb) hS h3)
theorem r_callVv (C : Cx u p l s m meth c own cc nL D ca ρ) {kd i index mL n : Nat} {y : MethodName} {b : ByteArray} {ret : Option FieldType} {rm : Room} {As rest : List Value} {Qm : St → Prop} {T : u_T} {N : Nat} {fs : List Value} (hM : ∀ sz, Met l y [Cond.code y b mL ret] rm (va_Pc (.ref (ρ kd i) :: As) (PreU u D ca ρ sz S)) (va_Qv Qm (PostU u D ca ρ) (Ar u ρ sz)) 0 0 (Ar u ρ sz)) (mf : MfV y b mL ret n) (hL : Cond.methodLink own index y ∈ tbl) (hu : unit u kd = true) (hi : i < cnt kd) (hc : cellOf ca ρ S kd i = .inr (kd, fs)) (hcl : classes[kd]? = some (y.cls, T, N)) (hrc : rm.cells = 0) (hrs : rm.slots = 0) (hR : rm.frames + 1 ≤ R.frames ∧ 8 + (mL + 11) + rm.locals ≤ R.locals) (hn : As.length = n) (hst : st = As.reverse ++ .ref (ρ kd i) :: rest) (hW : (rest.map fun v => v.category).sum ≤ 8) (hcs : cells ≤ R.cells ∧ slots ≤ R.slots) (hd : decode cc pc = .ok (.invokevirtual index, 3)) (k : ∀ S', Qm S' → wm u p l e R s m args below meth c D ca ρ nL cells slots Q (pc + 3) ls rest S') : wm u p l e R s m args below meth c D ca ρ nL cells slots Q (pc) ls st S := by
  intro H locs la h1 h2 h3
  obtain ⟨hI, hS, hN, hC, hd2⟩ := mf
  have hrecv : ∃ cell : Cell, H[ρ kd i]? = some cell ∧ cell.vm.isStatics = false ∧ s.vm.findClass y.cls = some cell.cls := va_recv C.2.2.2.2.2.1 (h1.one hu hi hc) (ci := kd) (q0 := 0) hcl rfl
  refine va_callv (va_runV (Ts := tbl) (As := As) (rest := rest) ⟨C.1, C.2.1, C.2.2.1, C.2.2.2.1, fun w hw => C.2.2.2.2.1 w hw _⟩ (hM H.size) ⟨callB_mk n C.2.2.2.2.1 hC hN hL hrc hrs hd2 hR, C.2.2.2.2.1 _ hI _, C.2.2.2.2.1 _ hS _⟩ ⟨PreU.blind, hrecv, fun U hU hWm => ⟨rfl, by rw [hU], C.2.2.2.2.1.warm hWm, va_K.moved hWm.alike C.2.2.2.2.2.1, by rw [hU]; exact h1⟩⟩ rfl hn h3.1 hst (lv_room hW) hd ⟨hcs.1, hcs.2⟩) h2 (fun q _ h => Ar.le h2.1 h) (fun q h => Ar.le h2.1 h) (fun s2 t H1 locs1 e1 hvm hq hb hz hk hS => k s2 hq H1 locs1 la (by unfold PostU at hb; rw [← e1]; exact hb) hS h3)
theorem r_callSv (C : Cx u p l s m meth c own cc nL D ca ρ) {index mL n : Nat} {y : MethodName} {b : ByteArray} {ret : Option FieldType} {rm : Room} {As rest : List Value} {Qm : St → Prop} (hM : ∀ sz, Met l y [Cond.code y b mL ret] rm (va_Pc As (PreU u D ca ρ sz S)) (va_Qv Qm (PostU u D ca ρ) (Ar u ρ sz)) 0 0 (Ar u ρ sz)) (mf : MfS y b mL ret n) (hL : Cond.methodLink own index y ∈ tbl) (hrc : rm.cells = 0) (hrs : rm.slots = 0) (hR : rm.frames + 1 ≤ R.frames ∧ 8 + (mL + 11) + rm.locals ≤ R.locals) (hn : As.length = n) (hst : st = As.reverse ++ rest) (hW : (rest.map fun v => v.category).sum ≤ 8) (hcs : cells ≤ R.cells ∧ slots ≤ R.slots) (hd : decode cc pc = .ok (.invokestatic index, 3)) (k : ∀ S', Qm S' → wm u p l e R s m args below meth c D ca ρ nL cells slots Q (pc + 3) ls rest S') : wm u p l e R s m args below meth c D ca ρ nL cells slots Q (pc) ls st S := by
  intro H locs la h1 h2 h3
  obtain ⟨hI, hN, hC, hd2⟩ := mf
  refine va_callv (va_runS (Ts := tbl) (As := As) (rest := rest) ⟨C.1, C.2.1, C.2.2.1, C.2.2.2.1, fun w hw => C.2.2.2.2.1 w hw _⟩ (hM H.size) ⟨callB_mk n C.2.2.2.2.1 hC hN hL hrc hrs hd2 hR, C.2.2.2.2.1 _ hI _⟩ ⟨PreU.blind, fun U hU hWm => ⟨rfl, by rw [hU], C.2.2.2.2.1.warm hWm, va_K.moved hWm.alike C.2.2.2.2.2.1, by rw [hU]; exact h1⟩⟩ rfl hn h3.1 hst (lv_room hW) hd ⟨hcs.1, hcs.2⟩) h2 (fun q _ h => Ar.le h2.1 h) (fun q h => Ar.le h2.1 h) (fun s2 t H1 locs1 e1 hvm hq hb hz hk hS => k s2 hq H1 locs1 la (by unfold PostU at hb; rw [← e1]; exact hb) hS h3)
theorem r_callNv (C : Cx u p l s m meth c own cc nL D ca ρ) {index mL n : Nat} {y : MethodName} {host : String} {b : ByteArray} {ret : Option FieldType} {rm : Room} {As rest : List Value} {Qm : St → Prop} (hM : ∀ sz, Met l y [Cond.code y b mL ret] rm (va_Pc As (PreU u D ca ρ sz S)) (va_Qv Qm (PostU u D ca ρ) (Ar u ρ sz)) 0 0 (Ar u ρ sz)) (mf : MfS y b mL ret n) (hL : Cond.methodLinkNest own index y host ∈ tbl) (hrc : rm.cells = 0) (hrs : rm.slots = 0) (hR : rm.frames + 1 ≤ R.frames ∧ 8 + (mL + 11) + rm.locals ≤ R.locals) (hn : As.length = n) (hst : st = As.reverse ++ rest) (hW : (rest.map fun v => v.category).sum ≤ 8) (hcs : cells ≤ R.cells ∧ slots ≤ R.slots) (hd : decode cc pc = .ok (.invokestatic index, 3)) (k : ∀ S', Qm S' → wm u p l e R s m args below meth c D ca ρ nL cells slots Q (pc + 3) ls rest S') : wm u p l e R s m args below meth c D ca ρ nL cells slots Q (pc) ls st S := by
  intro H locs la h1 h2 h3
  obtain ⟨hI, hN, hC, hd2⟩ := mf
  refine va_callv (va_runSN (Ts := tbl) (As := As) (rest := rest) ⟨C.1, C.2.1, C.2.2.1, C.2.2.2.1, fun w hw => C.2.2.2.2.1 w hw _⟩ (hM H.size) ⟨callN_mk n C.2.2.2.2.1 hC hN hL hrc hrs hd2 hR, C.2.2.2.2.1 _ hI _, trivial⟩ ⟨PreU.blind, fun U hU hWm => ⟨rfl, by rw [hU], C.2.2.2.2.1.warm hWm, va_K.moved hWm.alike C.2.2.2.2.2.1, by rw [hU]; exact h1⟩⟩ rfl hn h3.1 hst (lv_room hW) hd ⟨hcs.1, hcs.2⟩) h2 (fun q _ h => Ar.le h2.1 h) (fun q h => Ar.le h2.1 h) (fun s2 t H1 locs1 e1 hvm hq hb hz hk hS => k s2 hq H1 locs1 la (by unfold PostU at hb; rw [← e1]; exact hb) hS h3)
end CALLS
end
