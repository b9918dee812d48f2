-- ===== PART A: goes FIRST, ahead of the names: the tables' words, and 'selects' of the private methods out of them =====
/-- a private method of a class that the tables say can be made, by its rows of tables_1 -/
def lw_okq (q : MethodName × Nat) : Prop := (q.1.cls ≠ "java/lang/invoke/MethodHandle" ∧ q.1.cls ≠ "java/lang/invoke/VarHandle") ∧ Cond.instantiable q.1.cls q.2 ∈ tables_1 ∧ Cond.privateMethod q.1 ∈ tables_1 ∧ Cond.instanceMethod q.1 ∈ tables_1
theorem lw_p0 : lw_okq (⟨"EventStructures", "structureOf", "(I)LEventStructures$Structure;"⟩, 15) := ⟨⟨by decide +kernel, by decide +kernel⟩, List.mem_of_getElem? (i := 17) (by decide +kernel), List.mem_of_getElem? (i := 379) (by decide +kernel), List.mem_of_getElem? (i := 380) (by decide +kernel)⟩
theorem lw_p1 : lw_okq (⟨"EventStructures$Structure", "noteChange", "()V"⟩, 8) := ⟨⟨by decide +kernel, by decide +kernel⟩, List.mem_of_getElem? (i := 27) (by decide +kernel), List.mem_of_getElem? (i := 391) (by decide +kernel), List.mem_of_getElem? (i := 392) (by decide +kernel)⟩
theorem lw_p2 : lw_okq (⟨"EventStructures", "spaceOf", "(I)LEventStructures$Space;"⟩, 15) := ⟨⟨by decide +kernel, by decide +kernel⟩, List.mem_of_getElem? (i := 17) (by decide +kernel), List.mem_of_getElem? (i := 466) (by decide +kernel), List.mem_of_getElem? (i := 467) (by decide +kernel)⟩
theorem lw_p3 : lw_okq (⟨"EventStructures$Space", "findClashes", "(I)I"⟩, 8) := ⟨⟨by decide +kernel, by decide +kernel⟩, List.mem_of_getElem? (i := 25) (by decide +kernel), List.mem_of_getElem? (i := 475) (by decide +kernel), List.mem_of_getElem? (i := 476) (by decide +kernel)⟩
theorem lw_p4 : lw_okq (⟨"EventStructures$Space", "findOpen", "(I)I"⟩, 8) := ⟨⟨by decide +kernel, by decide +kernel⟩, List.mem_of_getElem? (i := 25) (by decide +kernel), List.mem_of_getElem? (i := 484) (by decide +kernel), List.mem_of_getElem? (i := 485) (by decide +kernel)⟩
theorem lw_p5 : lw_okq (⟨"EventStructures$Space", "isMaximal", "(I)Z"⟩, 8) := ⟨⟨by decide +kernel, by decide +kernel⟩, List.mem_of_getElem? (i := 25) (by decide +kernel), List.mem_of_getElem? (i := 528) (by decide +kernel), List.mem_of_getElem? (i := 529) (by decide +kernel)⟩
theorem lw_p6 : lw_okq (⟨"EventStructures", "countWays", "(IIZ)I"⟩, 15) := ⟨⟨by decide +kernel, by decide +kernel⟩, List.mem_of_getElem? (i := 17) (by decide +kernel), List.mem_of_getElem? (i := 579) (by decide +kernel), List.mem_of_getElem? (i := 580) (by decide +kernel)⟩
theorem lw_p7 : lw_okq (⟨"EventStructures$Space", "sumOfWays", "(IZ)I"⟩, 8) := ⟨⟨by decide +kernel, by decide +kernel⟩, List.mem_of_getElem? (i := 25) (by decide +kernel), List.mem_of_getElem? (i := 587) (by decide +kernel), List.mem_of_getElem? (i := 588) (by decide +kernel)⟩
theorem lw_p8 : lw_okq (⟨"EventStructures$Space", "longestBefore", "(I)J"⟩, 8) := ⟨⟨by decide +kernel, by decide +kernel⟩, List.mem_of_getElem? (i := 25) (by decide +kernel), List.mem_of_getElem? (i := 606) (by decide +kernel), List.mem_of_getElem? (i := 607) (by decide +kernel)⟩
theorem lw_p9 : lw_okq (⟨"EventStructures$Bisimulation", "settle", "(I)V"⟩, 13) := ⟨⟨by decide +kernel, by decide +kernel⟩, List.mem_of_getElem? (i := 123) (by decide +kernel), List.mem_of_getElem? (i := 649) (by decide +kernel), List.mem_of_getElem? (i := 650) (by decide +kernel)⟩
theorem lw_p10 : lw_okq (⟨"EventStructures$Bisimulation", "nameSets", "(I)V"⟩, 13) := ⟨⟨by decide +kernel, by decide +kernel⟩, List.mem_of_getElem? (i := 123) (by decide +kernel), List.mem_of_getElem? (i := 654) (by decide +kernel), List.mem_of_getElem? (i := 655) (by decide +kernel)⟩
theorem lw_p11 : lw_okq (⟨"EventStructures$Bisimulation", "runRounds", "(I)V"⟩, 13) := ⟨⟨by decide +kernel, by decide +kernel⟩, List.mem_of_getElem? (i := 123) (by decide +kernel), List.mem_of_getElem? (i := 660) (by decide +kernel), List.mem_of_getElem? (i := 661) (by decide +kernel)⟩
theorem lw_p12 : lw_okq (⟨"EventStructures$Bisimulation", "splitClasses", "(Z)I"⟩, 13) := ⟨⟨by decide +kernel, by decide +kernel⟩, List.mem_of_getElem? (i := 123) (by decide +kernel), List.mem_of_getElem? (i := 667) (by decide +kernel), List.mem_of_getElem? (i := 668) (by decide +kernel)⟩
theorem lw_p13 : lw_okq (⟨"EventStructures$Bisimulation", "gatherMoves", "(IZ)V"⟩, 13) := ⟨⟨by decide +kernel, by decide +kernel⟩, List.mem_of_getElem? (i := 123) (by decide +kernel), List.mem_of_getElem? (i := 671) (by decide +kernel), List.mem_of_getElem? (i := 672) (by decide +kernel)⟩
theorem lw_p14 : lw_okq (⟨"EventStructures$Bisimulation", "insertMove", "(I)V"⟩, 13) := ⟨⟨by decide +kernel, by decide +kernel⟩, List.mem_of_getElem? (i := 123) (by decide +kernel), List.mem_of_getElem? (i := 676) (by decide +kernel), List.mem_of_getElem? (i := 677) (by decide +kernel)⟩
theorem lw_p15 : lw_okq (⟨"EventStructures$Bisimulation", "findClass", "(II)I"⟩, 13) := ⟨⟨by decide +kernel, by decide +kernel⟩, List.mem_of_getElem? (i := 123) (by decide +kernel), List.mem_of_getElem? (i := 680) (by decide +kernel), List.mem_of_getElem? (i := 681) (by decide +kernel)⟩
def lw_privs_1 : List (MethodName × Nat) := [(⟨"EventStructures", "structureOf", "(I)LEventStructures$Structure;"⟩, 15), (⟨"EventStructures$Structure", "noteChange", "()V"⟩, 8), (⟨"EventStructures", "spaceOf", "(I)LEventStructures$Space;"⟩, 15), (⟨"EventStructures$Space", "findClashes", "(I)I"⟩, 8), (⟨"EventStructures$Space", "findOpen", "(I)I"⟩, 8), (⟨"EventStructures$Space", "isMaximal", "(I)Z"⟩, 8), (⟨"EventStructures", "countWays", "(IIZ)I"⟩, 15), (⟨"EventStructures$Space", "sumOfWays", "(IZ)I"⟩, 8), (⟨"EventStructures$Space", "longestBefore", "(I)J"⟩, 8), (⟨"EventStructures$Bisimulation", "settle", "(I)V"⟩, 13), (⟨"EventStructures$Bisimulation", "nameSets", "(I)V"⟩, 13), (⟨"EventStructures$Bisimulation", "runRounds", "(I)V"⟩, 13), (⟨"EventStructures$Bisimulation", "splitClasses", "(Z)I"⟩, 13), (⟨"EventStructures$Bisimulation", "gatherMoves", "(IZ)V"⟩, 13), (⟨"EventStructures$Bisimulation", "insertMove", "(I)V"⟩, 13), (⟨"EventStructures$Bisimulation", "findClass", "(II)I"⟩, 13)]
theorem lw_r1 : ∀ q ∈ lw_privs_1, lw_okq q := List.forall_mem_cons.mpr ⟨lw_p0, List.forall_mem_cons.mpr ⟨lw_p1, List.forall_mem_cons.mpr ⟨lw_p2, List.forall_mem_cons.mpr ⟨lw_p3, List.forall_mem_cons.mpr ⟨lw_p4, List.forall_mem_cons.mpr ⟨lw_p5, List.forall_mem_cons.mpr ⟨lw_p6, List.forall_mem_cons.mpr ⟨lw_p7, List.forall_mem_cons.mpr ⟨lw_p8, List.forall_mem_cons.mpr ⟨lw_p9, List.forall_mem_cons.mpr ⟨lw_p10, List.forall_mem_cons.mpr ⟨lw_p11, List.forall_mem_cons.mpr ⟨lw_p12, List.forall_mem_cons.mpr ⟨lw_p13, List.forall_mem_cons.mpr ⟨lw_p14, List.forall_mem_cons.mpr ⟨lw_p15, fun _ h => absurd h List.not_mem_nil⟩⟩⟩⟩⟩⟩⟩⟩⟩⟩⟩⟩⟩⟩⟩⟩
theorem lw_p16 : lw_okq (⟨"EventStructures$Bisimulation", "hasMoves", "(I)Z"⟩, 13) := ⟨⟨by decide +kernel, by decide +kernel⟩, List.mem_of_getElem? (i := 123) (by decide +kernel), List.mem_of_getElem? (i := 684) (by decide +kernel), List.mem_of_getElem? (i := 685) (by decide +kernel)⟩
theorem lw_p17 : lw_okq (⟨"EventStructures$Bisimulation", "openClass", "(II)V"⟩, 13) := ⟨⟨by decide +kernel, by decide +kernel⟩, List.mem_of_getElem? (i := 123) (by decide +kernel), List.mem_of_getElem? (i := 688) (by decide +kernel), List.mem_of_getElem? (i := 689) (by decide +kernel)⟩
theorem lw_p18 : lw_okq (⟨"EventStructures$Words", "begin", "(ZZ)V"⟩, 17) := ⟨⟨by decide +kernel, by decide +kernel⟩, List.mem_of_getElem? (i := 171) (by decide +kernel), List.mem_of_getElem? (i := 712) (by decide +kernel), List.mem_of_getElem? (i := 713) (by decide +kernel)⟩
theorem lw_p19 : lw_okq (⟨"EventStructures$Words", "findSlot", "(I)I"⟩, 17) := ⟨⟨by decide +kernel, by decide +kernel⟩, List.mem_of_getElem? (i := 171) (by decide +kernel), List.mem_of_getElem? (i := 721) (by decide +kernel), List.mem_of_getElem? (i := 722) (by decide +kernel)⟩
theorem lw_p20 : lw_okq (⟨"EventStructures$Words", "isKept", "(II)Z"⟩, 17) := ⟨⟨by decide +kernel, by decide +kernel⟩, List.mem_of_getElem? (i := 171) (by decide +kernel), List.mem_of_getElem? (i := 726) (by decide +kernel), List.mem_of_getElem? (i := 727) (by decide +kernel)⟩
theorem lw_p21 : lw_okq (⟨"EventStructures$Words", "keep", "(III)V"⟩, 17) := ⟨⟨by decide +kernel, by decide +kernel⟩, List.mem_of_getElem? (i := 171) (by decide +kernel), List.mem_of_getElem? (i := 730) (by decide +kernel), List.mem_of_getElem? (i := 731) (by decide +kernel)⟩
theorem lw_p22 : lw_okq (⟨"EventStructures$Words", "advance", "(III)Z"⟩, 17) := ⟨⟨by decide +kernel, by decide +kernel⟩, List.mem_of_getElem? (i := 171) (by decide +kernel), List.mem_of_getElem? (i := 734) (by decide +kernel), List.mem_of_getElem? (i := 735) (by decide +kernel)⟩
theorem lw_p23 : lw_okq (⟨"EventStructures$Words", "keepDifference", "(I)V"⟩, 17) := ⟨⟨by decide +kernel, by decide +kernel⟩, List.mem_of_getElem? (i := 171) (by decide +kernel), List.mem_of_getElem? (i := 739) (by decide +kernel), List.mem_of_getElem? (i := 740) (by decide +kernel)⟩
theorem lw_p24 : lw_okq (⟨"EventStructures$Structure", "addFor", "(LEventStructures$Structure;II)Z"⟩, 8) := ⟨⟨by decide +kernel, by decide +kernel⟩, List.mem_of_getElem? (i := 27) (by decide +kernel), List.mem_of_getElem? (i := 771) (by decide +kernel), List.mem_of_getElem? (i := 772) (by decide +kernel)⟩
theorem lw_p25 : lw_okq (⟨"EventStructures$Structure", "spread", "(I)I"⟩, 8) := ⟨⟨by decide +kernel, by decide +kernel⟩, List.mem_of_getElem? (i := 27) (by decide +kernel), List.mem_of_getElem? (i := 776) (by decide +kernel), List.mem_of_getElem? (i := 777) (by decide +kernel)⟩
theorem lw_p26 : lw_okq (⟨"EventStructures$Unfolding", "produce", "(II)V"⟩, 8) := ⟨⟨by decide +kernel, by decide +kernel⟩, List.mem_of_getElem? (i := 263) (by decide +kernel), List.mem_of_getElem? (i := 821) (by decide +kernel), List.mem_of_getElem? (i := 822) (by decide +kernel)⟩
theorem lw_p27 : lw_okq (⟨"EventStructures$Unfolding", "findNext", "(LEventStructures$Net;)I"⟩, 8) := ⟨⟨by decide +kernel, by decide +kernel⟩, List.mem_of_getElem? (i := 263) (by decide +kernel), List.mem_of_getElem? (i := 826) (by decide +kernel), List.mem_of_getElem? (i := 827) (by decide +kernel)⟩
theorem lw_p28 : lw_okq (⟨"EventStructures$Unfolding", "isMade", "(IJ)Z"⟩, 8) := ⟨⟨by decide +kernel, by decide +kernel⟩, List.mem_of_getElem? (i := 263) (by decide +kernel), List.mem_of_getElem? (i := 833) (by decide +kernel), List.mem_of_getElem? (i := 834) (by decide +kernel)⟩
theorem lw_p29 : lw_okq (⟨"EventStructures$Unfolding", "canHold", "(J)Z"⟩, 8) := ⟨⟨by decide +kernel, by decide +kernel⟩, List.mem_of_getElem? (i := 263) (by decide +kernel), List.mem_of_getElem? (i := 837) (by decide +kernel), List.mem_of_getElem? (i := 838) (by decide +kernel)⟩
theorem lw_p30 : lw_okq (⟨"EventStructures$Unfolding", "producersWithPasts", "(J)I"⟩, 8) := ⟨⟨by decide +kernel, by decide +kernel⟩, List.mem_of_getElem? (i := 263) (by decide +kernel), List.mem_of_getElem? (i := 841) (by decide +kernel), List.mem_of_getElem? (i := 842) (by decide +kernel)⟩
theorem lw_p31 : lw_okq (⟨"EventStructures$Unfolding", "create", "(LEventStructures$Net;I)Z"⟩, 8) := ⟨⟨by decide +kernel, by decide +kernel⟩, List.mem_of_getElem? (i := 263) (by decide +kernel), List.mem_of_getElem? (i := 847) (by decide +kernel), List.mem_of_getElem? (i := 848) (by decide +kernel)⟩
def lw_privs_2 : List (MethodName × Nat) := [(⟨"EventStructures$Bisimulation", "hasMoves", "(I)Z"⟩, 13), (⟨"EventStructures$Bisimulation", "openClass", "(II)V"⟩, 13), (⟨"EventStructures$Words", "begin", "(ZZ)V"⟩, 17), (⟨"EventStructures$Words", "findSlot", "(I)I"⟩, 17), (⟨"EventStructures$Words", "isKept", "(II)Z"⟩, 17), (⟨"EventStructures$Words", "keep", "(III)V"⟩, 17), (⟨"EventStructures$Words", "advance", "(III)Z"⟩, 17), (⟨"EventStructures$Words", "keepDifference", "(I)V"⟩, 17), (⟨"EventStructures$Structure", "addFor", "(LEventStructures$Structure;II)Z"⟩, 8), (⟨"EventStructures$Structure", "spread", "(I)I"⟩, 8), (⟨"EventStructures$Unfolding", "produce", "(II)V"⟩, 8), (⟨"EventStructures$Unfolding", "findNext", "(LEventStructures$Net;)I"⟩, 8), (⟨"EventStructures$Unfolding", "isMade", "(IJ)Z"⟩, 8), (⟨"EventStructures$Unfolding", "canHold", "(J)Z"⟩, 8), (⟨"EventStructures$Unfolding", "producersWithPasts", "(J)I"⟩, 8), (⟨"EventStructures$Unfolding", "create", "(LEventStructures$Net;I)Z"⟩, 8)]
theorem lw_r2 : ∀ q ∈ lw_privs_2, lw_okq q := List.forall_mem_cons.mpr ⟨lw_p16, List.forall_mem_cons.mpr ⟨lw_p17, List.forall_mem_cons.mpr ⟨lw_p18, List.forall_mem_cons.mpr ⟨lw_p19, List.forall_mem_cons.mpr ⟨lw_p20, List.forall_mem_cons.mpr ⟨lw_p21, List.forall_mem_cons.mpr ⟨lw_p22, List.forall_mem_cons.mpr ⟨lw_p23, List.forall_mem_cons.mpr ⟨lw_p24, List.forall_mem_cons.mpr ⟨lw_p25, List.forall_mem_cons.mpr ⟨lw_p26, List.forall_mem_cons.mpr ⟨lw_p27, List.forall_mem_cons.mpr ⟨lw_p28, List.forall_mem_cons.mpr ⟨lw_p29, List.forall_mem_cons.mpr ⟨lw_p30, List.forall_mem_cons.mpr ⟨lw_p31, fun _ h => absurd h List.not_mem_nil⟩⟩⟩⟩⟩⟩⟩⟩⟩⟩⟩⟩⟩⟩⟩⟩
theorem lw_p32 : lw_okq (⟨"EventStructures$Language", "applyWaiting", "(I)Z"⟩, 7) := ⟨⟨by decide +kernel, by decide +kernel⟩, List.mem_of_getElem? (i := 298) (by decide +kernel), List.mem_of_getElem? (i := 883) (by decide +kernel), List.mem_of_getElem? (i := 884) (by decide +kernel)⟩
theorem lw_p33 : lw_okq (⟨"EventStructures$Language", "exclude", "(II)V"⟩, 7) := ⟨⟨by decide +kernel, by decide +kernel⟩, List.mem_of_getElem? (i := 298) (by decide +kernel), List.mem_of_getElem? (i := 887) (by decide +kernel), List.mem_of_getElem? (i := 888) (by decide +kernel)⟩
theorem lw_p34 : lw_okq (⟨"EventStructures$Language", "continueWithCopies", "(II)Z"⟩, 7) := ⟨⟨by decide +kernel, by decide +kernel⟩, List.mem_of_getElem? (i := 298) (by decide +kernel), List.mem_of_getElem? (i := 891) (by decide +kernel), List.mem_of_getElem? (i := 892) (by decide +kernel)⟩
theorem lw_p35 : lw_okq (⟨"EventStructures$Language", "isMaximal", "(III)Z"⟩, 7) := ⟨⟨by decide +kernel, by decide +kernel⟩, List.mem_of_getElem? (i := 298) (by decide +kernel), List.mem_of_getElem? (i := 895) (by decide +kernel), List.mem_of_getElem? (i := 896) (by decide +kernel)⟩
theorem lw_p36 : lw_okq (⟨"EventStructures$Language", "dropParenthesis", "()V"⟩, 7) := ⟨⟨by decide +kernel, by decide +kernel⟩, List.mem_of_getElem? (i := 298) (by decide +kernel), List.mem_of_getElem? (i := 902) (by decide +kernel), List.mem_of_getElem? (i := 903) (by decide +kernel)⟩
theorem lw_p37 : lw_okq (⟨"EventStructures$Language", "openOperand", "()V"⟩, 7) := ⟨⟨by decide +kernel, by decide +kernel⟩, List.mem_of_getElem? (i := 298) (by decide +kernel), List.mem_of_getElem? (i := 906) (by decide +kernel), List.mem_of_getElem? (i := 907) (by decide +kernel)⟩
theorem lw_p38 : lw_okq (⟨"EventStructures$Language", "keepWaiting", "(I)V"⟩, 7) := ⟨⟨by decide +kernel, by decide +kernel⟩, List.mem_of_getElem? (i := 298) (by decide +kernel), List.mem_of_getElem? (i := 910) (by decide +kernel), List.mem_of_getElem? (i := 911) (by decide +kernel)⟩
theorem lw_p39 : lw_okq (⟨"EventStructuresModel", "isEvent", "(II)Z"⟩, 42) := ⟨⟨by decide +kernel, by decide +kernel⟩, List.mem_of_getElem? (i := 935) (by decide +kernel), List.mem_of_getElem? (i := 1148) (by decide +kernel), List.mem_of_getElem? (i := 1149) (by decide +kernel)⟩
theorem lw_p40 : lw_okq (⟨"EventStructuresModel", "isConfig", "(II)Z"⟩, 42) := ⟨⟨by decide +kernel, by decide +kernel⟩, List.mem_of_getElem? (i := 935) (by decide +kernel), List.mem_of_getElem? (i := 1233) (by decide +kernel), List.mem_of_getElem? (i := 1234) (by decide +kernel)⟩
theorem lw_p41 : lw_okq (⟨"EventStructuresModel", "problem", "(II)I"⟩, 42) := ⟨⟨by decide +kernel, by decide +kernel⟩, List.mem_of_getElem? (i := 935) (by decide +kernel), List.mem_of_getElem? (i := 1266) (by decide +kernel), List.mem_of_getElem? (i := 1267) (by decide +kernel)⟩
theorem lw_p42 : lw_okq (⟨"EventStructuresModel", "ways", "(LEventStructuresModel$Structure;IZ)I"⟩, 42) := ⟨⟨by decide +kernel, by decide +kernel⟩, List.mem_of_getElem? (i := 935) (by decide +kernel), List.mem_of_getElem? (i := 1301) (by decide +kernel), List.mem_of_getElem? (i := 1302) (by decide +kernel)⟩
theorem lw_p43 : lw_okq (⟨"EventStructuresModel", "compare", "(I)V"⟩, 42) := ⟨⟨by decide +kernel, by decide +kernel⟩, List.mem_of_getElem? (i := 935) (by decide +kernel), List.mem_of_getElem? (i := 1341) (by decide +kernel), List.mem_of_getElem? (i := 1342) (by decide +kernel)⟩
theorem lw_p44 : lw_okq (⟨"EventStructuresModel", "findMoves", "(Z)V"⟩, 42) := ⟨⟨by decide +kernel, by decide +kernel⟩, List.mem_of_getElem? (i := 935) (by decide +kernel), List.mem_of_getElem? (i := 1345) (by decide +kernel), List.mem_of_getElem? (i := 1346) (by decide +kernel)⟩
theorem lw_p45 : lw_okq (⟨"EventStructuresModel", "follows", "(II)Z"⟩, 42) := ⟨⟨by decide +kernel, by decide +kernel⟩, List.mem_of_getElem? (i := 935) (by decide +kernel), List.mem_of_getElem? (i := 1353) (by decide +kernel), List.mem_of_getElem? (i := 1354) (by decide +kernel)⟩
theorem lw_p46 : lw_okq (⟨"EventStructuresModel", "differ", "()I"⟩, 42) := ⟨⟨by decide +kernel, by decide +kernel⟩, List.mem_of_getElem? (i := 935) (by decide +kernel), List.mem_of_getElem? (i := 1370) (by decide +kernel), List.mem_of_getElem? (i := 1371) (by decide +kernel)⟩
theorem lw_p47 : lw_okq (⟨"EventStructuresModel", "begin", "(ZZ)V"⟩, 42) := ⟨⟨by decide +kernel, by decide +kernel⟩, List.mem_of_getElem? (i := 935) (by decide +kernel), List.mem_of_getElem? (i := 1374) (by decide +kernel), List.mem_of_getElem? (i := 1375) (by decide +kernel)⟩
def lw_privs_3 : List (MethodName × Nat) := [(⟨"EventStructures$Language", "applyWaiting", "(I)Z"⟩, 7), (⟨"EventStructures$Language", "exclude", "(II)V"⟩, 7), (⟨"EventStructures$Language", "continueWithCopies", "(II)Z"⟩, 7), (⟨"EventStructures$Language", "isMaximal", "(III)Z"⟩, 7), (⟨"EventStructures$Language", "dropParenthesis", "()V"⟩, 7), (⟨"EventStructures$Language", "openOperand", "()V"⟩, 7), (⟨"EventStructures$Language", "keepWaiting", "(I)V"⟩, 7), (⟨"EventStructuresModel", "isEvent", "(II)Z"⟩, 42), (⟨"EventStructuresModel", "isConfig", "(II)Z"⟩, 42), (⟨"EventStructuresModel", "problem", "(II)I"⟩, 42), (⟨"EventStructuresModel", "ways", "(LEventStructuresModel$Structure;IZ)I"⟩, 42), (⟨"EventStructuresModel", "compare", "(I)V"⟩, 42), (⟨"EventStructuresModel", "findMoves", "(Z)V"⟩, 42), (⟨"EventStructuresModel", "follows", "(II)Z"⟩, 42), (⟨"EventStructuresModel", "differ", "()I"⟩, 42), (⟨"EventStructuresModel", "begin", "(ZZ)V"⟩, 42)]
theorem lw_r3 : ∀ q ∈ lw_privs_3, lw_okq q := List.forall_mem_cons.mpr ⟨lw_p32, List.forall_mem_cons.mpr ⟨lw_p33, List.forall_mem_cons.mpr ⟨lw_p34, List.forall_mem_cons.mpr ⟨lw_p35, List.forall_mem_cons.mpr ⟨lw_p36, List.forall_mem_cons.mpr ⟨lw_p37, List.forall_mem_cons.mpr ⟨lw_p38, List.forall_mem_cons.mpr ⟨lw_p39, List.forall_mem_cons.mpr ⟨lw_p40, List.forall_mem_cons.mpr ⟨lw_p41, List.forall_mem_cons.mpr ⟨lw_p42, List.forall_mem_cons.mpr ⟨lw_p43, List.forall_mem_cons.mpr ⟨lw_p44, List.forall_mem_cons.mpr ⟨lw_p45, List.forall_mem_cons.mpr ⟨lw_p46, List.forall_mem_cons.mpr ⟨lw_p47, fun _ h => absurd h List.not_mem_nil⟩⟩⟩⟩⟩⟩⟩⟩⟩⟩⟩⟩⟩⟩⟩⟩
theorem lw_p48 : lw_okq (⟨"EventStructuresModel", "go", "(LEventStructuresModel$Layer;II)I"⟩, 42) := ⟨⟨by decide +kernel, by decide +kernel⟩, List.mem_of_getElem? (i := 935) (by decide +kernel), List.mem_of_getElem? (i := 1391) (by decide +kernel), List.mem_of_getElem? (i := 1392) (by decide +kernel)⟩
theorem lw_p49 : lw_okq (⟨"EventStructuresModel", "addConditions", "(II)V"⟩, 42) := ⟨⟨by decide +kernel, by decide +kernel⟩, List.mem_of_getElem? (i := 935) (by decide +kernel), List.mem_of_getElem? (i := 1423) (by decide +kernel), List.mem_of_getElem? (i := 1424) (by decide +kernel)⟩
theorem lw_p50 : lw_okq (⟨"EventStructuresModel", "findRow", "(III)Z"⟩, 42) := ⟨⟨by decide +kernel, by decide +kernel⟩, List.mem_of_getElem? (i := 935) (by decide +kernel), List.mem_of_getElem? (i := 1427) (by decide +kernel), List.mem_of_getElem? (i := 1428) (by decide +kernel)⟩
theorem lw_p51 : lw_okq (⟨"EventStructuresModel", "isCreated", "(I)Z"⟩, 42) := ⟨⟨by decide +kernel, by decide +kernel⟩, List.mem_of_getElem? (i := 935) (by decide +kernel), List.mem_of_getElem? (i := 1431) (by decide +kernel), List.mem_of_getElem? (i := 1432) (by decide +kernel)⟩
theorem lw_p52 : lw_okq (⟨"EventStructuresModel", "canHold", "(I)Z"⟩, 42) := ⟨⟨by decide +kernel, by decide +kernel⟩, List.mem_of_getElem? (i := 935) (by decide +kernel), List.mem_of_getElem? (i := 1435) (by decide +kernel), List.mem_of_getElem? (i := 1436) (by decide +kernel)⟩
theorem lw_p53 : lw_okq (⟨"EventStructuresModel", "create", "(I)V"⟩, 42) := ⟨⟨by decide +kernel, by decide +kernel⟩, List.mem_of_getElem? (i := 935) (by decide +kernel), List.mem_of_getElem? (i := 1439) (by decide +kernel), List.mem_of_getElem? (i := 1440) (by decide +kernel)⟩
theorem lw_p54 : lw_okq (⟨"EventStructuresModel", "choice", "()LEventStructuresModel$Structure;"⟩, 42) := ⟨⟨by decide +kernel, by decide +kernel⟩, List.mem_of_getElem? (i := 935) (by decide +kernel), List.mem_of_getElem? (i := 1455) (by decide +kernel), List.mem_of_getElem? (i := 1456) (by decide +kernel)⟩
theorem lw_p55 : lw_okq (⟨"EventStructuresModel", "parallel", "()LEventStructuresModel$Structure;"⟩, 42) := ⟨⟨by decide +kernel, by decide +kernel⟩, List.mem_of_getElem? (i := 935) (by decide +kernel), List.mem_of_getElem? (i := 1459) (by decide +kernel), List.mem_of_getElem? (i := 1460) (by decide +kernel)⟩
theorem lw_p56 : lw_okq (⟨"EventStructuresModel", "sequence", "()LEventStructuresModel$Structure;"⟩, 42) := ⟨⟨by decide +kernel, by decide +kernel⟩, List.mem_of_getElem? (i := 935) (by decide +kernel), List.mem_of_getElem? (i := 1463) (by decide +kernel), List.mem_of_getElem? (i := 1464) (by decide +kernel)⟩
theorem lw_p57 : lw_okq (⟨"EventStructuresModel", "atom", "()LEventStructuresModel$Structure;"⟩, 42) := ⟨⟨by decide +kernel, by decide +kernel⟩, List.mem_of_getElem? (i := 935) (by decide +kernel), List.mem_of_getElem? (i := 1467) (by decide +kernel), List.mem_of_getElem? (i := 1468) (by decide +kernel)⟩
theorem lw_p58 : lw_okq (⟨"EventStructuresModel", "takes", "(I)Z"⟩, 42) := ⟨⟨by decide +kernel, by decide +kernel⟩, List.mem_of_getElem? (i := 935) (by decide +kernel), List.mem_of_getElem? (i := 1471) (by decide +kernel), List.mem_of_getElem? (i := 1472) (by decide +kernel)⟩
theorem lw_p59 : lw_okq (⟨"EventStructuresModel", "together", "(LEventStructuresModel$Structure;LEventStructuresModel$Structure;I)LEventStructuresModel$Structure;"⟩, 42) := ⟨⟨by decide +kernel, by decide +kernel⟩, List.mem_of_getElem? (i := 935) (by decide +kernel), List.mem_of_getElem? (i := 1475) (by decide +kernel), List.mem_of_getElem? (i := 1476) (by decide +kernel)⟩
theorem lw_p60 : lw_okq (⟨"EventStructuresModel", "bothEvents", "()I"⟩, 42) := ⟨⟨by decide +kernel, by decide +kernel⟩, List.mem_of_getElem? (i := 935) (by decide +kernel), List.mem_of_getElem? (i := 1486) (by decide +kernel), List.mem_of_getElem? (i := 1487) (by decide +kernel)⟩
def lw_privs_4 : List (MethodName × Nat) := [(⟨"EventStructuresModel", "go", "(LEventStructuresModel$Layer;II)I"⟩, 42), (⟨"EventStructuresModel", "addConditions", "(II)V"⟩, 42), (⟨"EventStructuresModel", "findRow", "(III)Z"⟩, 42), (⟨"EventStructuresModel", "isCreated", "(I)Z"⟩, 42), (⟨"EventStructuresModel", "canHold", "(I)Z"⟩, 42), (⟨"EventStructuresModel", "create", "(I)V"⟩, 42), (⟨"EventStructuresModel", "choice", "()LEventStructuresModel$Structure;"⟩, 42), (⟨"EventStructuresModel", "parallel", "()LEventStructuresModel$Structure;"⟩, 42), (⟨"EventStructuresModel", "sequence", "()LEventStructuresModel$Structure;"⟩, 42), (⟨"EventStructuresModel", "atom", "()LEventStructuresModel$Structure;"⟩, 42), (⟨"EventStructuresModel", "takes", "(I)Z"⟩, 42), (⟨"EventStructuresModel", "together", "(LEventStructuresModel$Structure;LEventStructuresModel$Structure;I)LEventStructuresModel$Structure;"⟩, 42), (⟨"EventStructuresModel", "bothEvents", "()I"⟩, 42)]
theorem lw_r4 : ∀ q ∈ lw_privs_4, lw_okq q := List.forall_mem_cons.mpr ⟨lw_p48, List.forall_mem_cons.mpr ⟨lw_p49, List.forall_mem_cons.mpr ⟨lw_p50, List.forall_mem_cons.mpr ⟨lw_p51, List.forall_mem_cons.mpr ⟨lw_p52, List.forall_mem_cons.mpr ⟨lw_p53, List.forall_mem_cons.mpr ⟨lw_p54, List.forall_mem_cons.mpr ⟨lw_p55, List.forall_mem_cons.mpr ⟨lw_p56, List.forall_mem_cons.mpr ⟨lw_p57, List.forall_mem_cons.mpr ⟨lw_p58, List.forall_mem_cons.mpr ⟨lw_p59, List.forall_mem_cons.mpr ⟨lw_p60, fun _ h => absurd h List.not_mem_nil⟩⟩⟩⟩⟩⟩⟩⟩⟩⟩⟩⟩⟩
def lw_privs : List (MethodName × Nat) := lw_privs_1 ++ (lw_privs_2 ++ (lw_privs_3 ++ (lw_privs_4)))
def lw_tbl : List Cond := k2_sels lw_privs ++ tables_1
theorem lw_privs_ok : ∀ q ∈ lw_privs, lw_okq q := by
  show ∀ q ∈ lw_privs_1 ++ (lw_privs_2 ++ (lw_privs_3 ++ (lw_privs_4))), lw_okq q
  exact List.forall_mem_append.mpr ⟨lw_r1, List.forall_mem_append.mpr ⟨lw_r2, List.forall_mem_append.mpr ⟨lw_r3, lw_r4⟩⟩⟩
-- ===== end of PART A; then your names; then what follows =====
def RX0 : String := "EventStructures$Bisimulation"
def TX0 : u_T := fun k => match k with
  | 0 => ("EventStructures$Bisimulation", "spaces", "[LEventStructures$Space;", true)
  | 1 => ("EventStructures$Bisimulation", "names", "[I", true)
  | 2 => ("EventStructures$Bisimulation", "classes", "[I", false)
  | 3 => ("EventStructures$Bisimulation", "nextClasses", "[I", false)
  | 4 => ("EventStructures$Bisimulation", "moves", "[I", true)
  | 5 => ("EventStructures$Bisimulation", "moveCount", "I", false)
  | 6 => ("EventStructures$Bisimulation", "rows", "[I", true)
  | 7 => ("EventStructures$Bisimulation", "rowEnds", "[I", true)
  | 8 => ("EventStructures$Bisimulation", "formerClasses", "[I", true)
  | 9 => ("EventStructures$Bisimulation", "separations", "[I", true)
  | 10 => ("EventStructures$Bisimulation", "classCounts", "[I", true)
  | 11 => ("EventStructures$Bisimulation", "firstVersions", "[I", true)
  | _ => ("EventStructures$Bisimulation", "secondVersions", "[I", true)
def tyX0 : Nat → FieldType := fun k => match k with
  | 0 => .array (.object "EventStructures$Space")
  | 1 => .array .int
  | 2 => .array .int
  | 3 => .array .int
  | 4 => .array .int
  | 5 => .int
  | 6 => .array .int
  | 7 => .array .int
  | 8 => .array .int
  | 9 => .array .int
  | 10 => .array .int
  | 11 => .array .int
  | _ => .array .int
abbrev wsX00 : List Cond := u_ws RX0 TX0 13
theorem nmX0 : ∀ a, a < 13 → ∀ b, b < 13 → a ≠ b → (TX0 a).2.1 ≠ (TX0 b).2.1 := by decide +kernel
theorem tyX0_ok : ∀ k, k < 13 → parseFieldDescriptor (TX0 k).2.2.1 = some (tyX0 k) := by decide +kernel
def RX1 : String := "EventStructures$Language"
def TX1 : u_T := fun k => match k with
  | 0 => ("EventStructures$Language", "built", "LEventStructures$Structure;", true)
  | 1 => ("EventStructures$Language", "text", "[I", true)
  | 2 => ("EventStructures$Language", "length", "I", false)
  | 3 => ("EventStructures$Language", "starts", "[I", true)
  | 4 => ("EventStructures$Language", "operands", "I", false)
  | 5 => ("EventStructures$Language", "waiting", "[I", true)
  | _ => ("EventStructures$Language", "waitingCount", "I", false)
def tyX1 : Nat → FieldType := fun k => match k with
  | 0 => .object "EventStructures$Structure"
  | 1 => .array .int
  | 2 => .int
  | 3 => .array .int
  | 4 => .int
  | 5 => .array .int
  | _ => .int
abbrev wsX10 : List Cond := u_ws RX1 TX1 7
theorem nmX1 : ∀ a, a < 7 → ∀ b, b < 7 → a ≠ b → (TX1 a).2.1 ≠ (TX1 b).2.1 := by decide +kernel
theorem tyX1_ok : ∀ k, k < 7 → parseFieldDescriptor (TX1 k).2.2.1 = some (tyX1 k) := by decide +kernel
def RX2 : String := "EventStructures$Net"
def TX2 : u_T := fun k => match k with
  | 0 => ("EventStructures$Net", "places", "I", false)
  | 1 => ("EventStructures$Net", "marked", "I", false)
  | 2 => ("EventStructures$Net", "transitions", "I", false)
  | 3 => ("EventStructures$Net", "inputs", "[I", true)
  | 4 => ("EventStructures$Net", "outputs", "[I", true)
  | _ => ("EventStructures$Net", "labels", "[I", true)
def tyX2 : Nat → FieldType := fun k => match k with
  | 0 => .int
  | 1 => .int
  | 2 => .int
  | 3 => .array .int
  | 4 => .array .int
  | _ => .array .int
abbrev wsX20 : List Cond := u_ws RX2 TX2 6
theorem nmX2 : ∀ a, a < 6 → ∀ b, b < 6 → a ≠ b → (TX2 a).2.1 ≠ (TX2 b).2.1 := by decide +kernel
theorem tyX2_ok : ∀ k, k < 6 → parseFieldDescriptor (TX2 k).2.2.1 = some (tyX2 k) := by decide +kernel
def RX3 : String := "EventStructures$Space"
def TX3 : u_T := fun k => match k with
  | 0 => ("EventStructures$Space", "events", "LEventStructures$Structure;", true)
  | 1 => ("EventStructures$Space", "pasts", "[I", true)
  | 2 => ("EventStructures$Space", "clashes", "[I", true)
  | 3 => ("EventStructures$Space", "configurations", "[Z", true)
  | 4 => ("EventStructures$Space", "opens", "[I", true)
  | 5 => ("EventStructures$Space", "ways", "[I", true)
  | 6 => ("EventStructures$Space", "chains", "[J", true)
  | _ => ("EventStructures$Space", "version", "I", false)
def tyX3 : Nat → FieldType := fun k => match k with
  | 0 => .object "EventStructures$Structure"
  | 1 => .array .int
  | 2 => .array .int
  | 3 => .array .boolean
  | 4 => .array .int
  | 5 => .array .int
  | 6 => .array .long
  | _ => .int
abbrev wsX30 : List Cond := u_ws RX3 TX3 8
theorem nmX3 : ∀ a, a < 8 → ∀ b, b < 8 → a ≠ b → (TX3 a).2.1 ≠ (TX3 b).2.1 := by decide +kernel
theorem tyX3_ok : ∀ k, k < 8 → parseFieldDescriptor (TX3 k).2.2.1 = some (tyX3 k) := by decide +kernel
def RX4 : String := "EventStructures$Structure"
def TX4 : u_T := fun k => match k with
  | 0 => ("EventStructures$Structure", "labels", "[I", true)
  | 1 => ("EventStructures$Structure", "durations", "[I", true)
  | 2 => ("EventStructures$Structure", "causes", "[I", true)
  | 3 => ("EventStructures$Structure", "conflicts", "[I", true)
  | 4 => ("EventStructures$Structure", "origins", "[I", true)
  | 5 => ("EventStructures$Structure", "count", "I", false)
  | 6 => ("EventStructures$Structure", "now", "I", false)
  | _ => ("EventStructures$Structure", "version", "I", false)
def tyX4 : Nat → FieldType := fun k => match k with
  | 0 => .array .int
  | 1 => .array .int
  | 2 => .array .int
  | 3 => .array .int
  | 4 => .array .int
  | 5 => .int
  | 6 => .int
  | _ => .int
abbrev wsX40 : List Cond := u_ws RX4 TX4 8
theorem nmX4 : ∀ a, a < 8 → ∀ b, b < 8 → a ≠ b → (TX4 a).2.1 ≠ (TX4 b).2.1 := by decide +kernel
theorem tyX4_ok : ∀ k, k < 8 → parseFieldDescriptor (TX4 k).2.2.1 = some (tyX4 k) := by decide +kernel
def RX5 : String := "EventStructures$Unfolding"
def TX5 : u_T := fun k => match k with
  | 0 => ("EventStructures$Unfolding", "events", "LEventStructures$Structure;", true)
  | 1 => ("EventStructures$Unfolding", "conditions", "I", false)
  | 2 => ("EventStructures$Unfolding", "placesOf", "[I", true)
  | 3 => ("EventStructures$Unfolding", "producers", "[I", true)
  | 4 => ("EventStructures$Unfolding", "transitionsOf", "[I", true)
  | 5 => ("EventStructures$Unfolding", "taken", "[J", true)
  | 6 => ("EventStructures$Unfolding", "pasts", "[I", true)
  | _ => ("EventStructures$Unfolding", "found", "J", false)
def tyX5 : Nat → FieldType := fun k => match k with
  | 0 => .object "EventStructures$Structure"
  | 1 => .int
  | 2 => .array .int
  | 3 => .array .int
  | 4 => .array .int
  | 5 => .array .long
  | 6 => .array .int
  | _ => .long
abbrev wsX50 : List Cond := u_ws RX5 TX5 8
theorem nmX5 : ∀ a, a < 8 → ∀ b, b < 8 → a ≠ b → (TX5 a).2.1 ≠ (TX5 b).2.1 := by decide +kernel
theorem tyX5_ok : ∀ k, k < 8 → parseFieldDescriptor (TX5 k).2.2.1 = some (tyX5 k) := by decide +kernel
def RX6 : String := "EventStructures$Words"
def TX6 : u_T := fun k => match k with
  | 0 => ("EventStructures$Words", "spaces", "[LEventStructures$Space;", true)
  | 1 => ("EventStructures$Words", "lists", "[[I", true)
  | 2 => ("EventStructures$Words", "sizes", "[I", true)
  | 3 => ("EventStructures$Words", "carriers", "[I", true)
  | 4 => ("EventStructures$Words", "marks", "[I", true)
  | 5 => ("EventStructures$Words", "mark", "I", false)
  | 6 => ("EventStructures$Words", "keys", "[J", true)
  | 7 => ("EventStructures$Words", "slotKeys", "[J", true)
  | 8 => ("EventStructures$Words", "slotSearches", "[I", true)
  | 9 => ("EventStructures$Words", "slotValues", "[I", true)
  | 10 => ("EventStructures$Words", "search", "I", false)
  | 11 => ("EventStructures$Words", "word", "[I", true)
  | 12 => ("EventStructures$Words", "difference", "[I", true)
  | 13 => ("EventStructures$Words", "shortest", "I", false)
  | 14 => ("EventStructures$Words", "counts", "[I", true)
  | 15 => ("EventStructures$Words", "countVersions", "[I", true)
  | _ => ("EventStructures$Words", "differenceVersions", "[I", true)
def tyX6 : Nat → FieldType := fun k => match k with
  | 0 => .array (.object "EventStructures$Space")
  | 1 => .array (.array .int)
  | 2 => .array .int
  | 3 => .array .int
  | 4 => .array .int
  | 5 => .int
  | 6 => .array .long
  | 7 => .array .long
  | 8 => .array .int
  | 9 => .array .int
  | 10 => .int
  | 11 => .array .int
  | 12 => .array .int
  | 13 => .int
  | 14 => .array .int
  | 15 => .array .int
  | _ => .array .int
abbrev wsX60 : List Cond := u_ws RX6 TX6 17
theorem nmX6 : ∀ a, a < 17 → ∀ b, b < 17 → a ≠ b → (TX6 a).2.1 ≠ (TX6 b).2.1 := by decide +kernel
theorem tyX6_ok : ∀ k, k < 17 → parseFieldDescriptor (TX6 k).2.2.1 = some (tyX6 k) := by decide +kernel
def RX7 : String := "EventStructures"
def TX7 : u_T := fun k => match k with
  | 0 => ("EventStructures", "first", "LEventStructures$Structure;", true)
  | 1 => ("EventStructures", "second", "LEventStructures$Structure;", true)
  | 2 => ("EventStructures", "savedFirst", "LEventStructures$Structure;", true)
  | 3 => ("EventStructures", "savedSecond", "LEventStructures$Structure;", true)
  | 4 => ("EventStructures", "refined", "LEventStructures$Structure;", true)
  | 5 => ("EventStructures", "firstSpace", "LEventStructures$Space;", true)
  | 6 => ("EventStructures", "secondSpace", "LEventStructures$Space;", true)
  | 7 => ("EventStructures", "bisimulation", "LEventStructures$Bisimulation;", true)
  | 8 => ("EventStructures", "words", "LEventStructures$Words;", true)
  | 9 => ("EventStructures", "net", "LEventStructures$Net;", true)
  | 10 => ("EventStructures", "savedNet", "LEventStructures$Net;", true)
  | 11 => ("EventStructures", "unfolding", "LEventStructures$Unfolding;", true)
  | 12 => ("EventStructures", "language", "LEventStructures$Language;", true)
  | 13 => ("EventStructures", "hasSaved", "Z", false)
  | _ => ("EventStructures", "conditions", "I", false)
def tyX7 : Nat → FieldType := fun k => match k with
  | 0 => .object "EventStructures$Structure"
  | 1 => .object "EventStructures$Structure"
  | 2 => .object "EventStructures$Structure"
  | 3 => .object "EventStructures$Structure"
  | 4 => .object "EventStructures$Structure"
  | 5 => .object "EventStructures$Space"
  | 6 => .object "EventStructures$Space"
  | 7 => .object "EventStructures$Bisimulation"
  | 8 => .object "EventStructures$Words"
  | 9 => .object "EventStructures$Net"
  | 10 => .object "EventStructures$Net"
  | 11 => .object "EventStructures$Unfolding"
  | 12 => .object "EventStructures$Language"
  | 13 => .boolean
  | _ => .int
abbrev wsX70 : List Cond := u_ws RX7 TX7 15
theorem nmX7 : ∀ a, a < 15 → ∀ b, b < 15 → a ≠ b → (TX7 a).2.1 ≠ (TX7 b).2.1 := by decide +kernel
theorem tyX7_ok : ∀ k, k < 15 → parseFieldDescriptor (TX7 k).2.2.1 = some (tyX7 k) := by decide +kernel
def RX8 : String := "EventStructuresModel$Layer"
def TX8 : u_T := fun k => match k with
  | 0 => ("EventStructuresModel$Layer", "fronts", "[J", false)
  | 1 => ("EventStructuresModel$Layer", "words", "[I", false)
  | 2 => ("EventStructuresModel$Layer", "counts", "[I", false)
  | _ => ("EventStructuresModel$Layer", "many", "I", false)
def tyX8 : Nat → FieldType := fun k => match k with
  | 0 => .array .long
  | 1 => .array .int
  | 2 => .array .int
  | _ => .int
abbrev wsX80 : List Cond := u_ws RX8 TX8 4
theorem nmX8 : ∀ a, a < 4 → ∀ b, b < 4 → a ≠ b → (TX8 a).2.1 ≠ (TX8 b).2.1 := by decide +kernel
theorem tyX8_ok : ∀ k, k < 4 → parseFieldDescriptor (TX8 k).2.2.1 = some (tyX8 k) := by decide +kernel
def RX9 : String := "EventStructuresModel$Structure"
def TX9 : u_T := fun k => match k with
  | 0 => ("EventStructuresModel$Structure", "events", "I", false)
  | 1 => ("EventStructuresModel$Structure", "labels", "[I", true)
  | 2 => ("EventStructuresModel$Structure", "durations", "[I", true)
  | 3 => ("EventStructuresModel$Structure", "causes", "[I", true)
  | 4 => ("EventStructuresModel$Structure", "conflicts", "[I", true)
  | 5 => ("EventStructuresModel$Structure", "current", "I", false)
  | _ => ("EventStructuresModel$Structure", "concurrent", "[I", true)
def tyX9 : Nat → FieldType := fun k => match k with
  | 0 => .int
  | 1 => .array .int
  | 2 => .array .int
  | 3 => .array .int
  | 4 => .array .int
  | 5 => .int
  | _ => .array .int
abbrev wsX90 : List Cond := u_ws RX9 TX9 7
theorem nmX9 : ∀ a, a < 7 → ∀ b, b < 7 → a ≠ b → (TX9 a).2.1 ≠ (TX9 b).2.1 := by decide +kernel
theorem tyX9_ok : ∀ k, k < 7 → parseFieldDescriptor (TX9 k).2.2.1 = some (tyX9 k) := by decide +kernel
def RX10 : String := "EventStructuresModel"
def TX10 : u_T := fun k => match k with
  | 0 => ("EventStructuresModel", "structures", "[LEventStructuresModel$Structure;", true)
  | 1 => ("EventStructuresModel", "saved", "[LEventStructuresModel$Structure;", true)
  | 2 => ("EventStructuresModel", "hasSaved", "Z", false)
  | 3 => ("EventStructuresModel", "runs", "[I", true)
  | 4 => ("EventStructuresModel", "firstMove", "[I", true)
  | 5 => ("EventStructuresModel", "moveName", "[I", true)
  | 6 => ("EventStructuresModel", "moveTo", "[I", true)
  | 7 => ("EventStructuresModel", "classes", "[I", true)
  | 8 => ("EventStructuresModel", "nextClasses", "[I", true)
  | 9 => ("EventStructuresModel", "members", "[I", true)
  | 10 => ("EventStructuresModel", "round", "I", false)
  | 11 => ("EventStructuresModel", "separation", "I", false)
  | 12 => ("EventStructuresModel", "classCount", "I", false)
  | 13 => ("EventStructuresModel", "layers", "[LEventStructuresModel$Layer;", true)
  | 14 => ("EventStructuresModel", "front", "[J", true)
  | 15 => ("EventStructuresModel", "difference", "[I", true)
  | 16 => ("EventStructuresModel", "places", "I", false)
  | 17 => ("EventStructuresModel", "marking", "I", false)
  | 18 => ("EventStructuresModel", "transitions", "I", false)
  | 19 => ("EventStructuresModel", "inputs", "[I", true)
  | 20 => ("EventStructuresModel", "outputs", "[I", true)
  | 21 => ("EventStructuresModel", "transitionLabels", "[I", true)
  | 22 => ("EventStructuresModel", "savedPlaces", "I", false)
  | 23 => ("EventStructuresModel", "savedMarking", "I", false)
  | 24 => ("EventStructuresModel", "savedTransitions", "I", false)
  | 25 => ("EventStructuresModel", "savedInputs", "[I", true)
  | 26 => ("EventStructuresModel", "savedOutputs", "[I", true)
  | 27 => ("EventStructuresModel", "savedLabels", "[I", true)
  | 28 => ("EventStructuresModel", "placeOf", "[I", true)
  | 29 => ("EventStructuresModel", "producerOf", "[I", true)
  | 30 => ("EventStructuresModel", "conditions", "I", false)
  | 31 => ("EventStructuresModel", "conditionsMade", "I", false)
  | 32 => ("EventStructuresModel", "transitionOf", "[I", true)
  | 33 => ("EventStructuresModel", "taken", "[J", true)
  | 34 => ("EventStructuresModel", "unfolding", "LEventStructuresModel$Structure;", true)
  | 35 => ("EventStructuresModel", "row", "[I", true)
  | 36 => ("EventStructuresModel", "rowLength", "I", false)
  | 37 => ("EventStructuresModel", "text", "[I", true)
  | 38 => ("EventStructuresModel", "length", "I", false)
  | 39 => ("EventStructuresModel", "at", "I", false)
  | 40 => ("EventStructuresModel", "error", "I", false)
  | _ => ("EventStructuresModel", "isLarge", "Z", false)
def tyX10 : Nat → FieldType := fun k => match k with
  | 0 => .array (.object "EventStructuresModel$Structure")
  | 1 => .array (.object "EventStructuresModel$Structure")
  | 2 => .boolean
  | 3 => .array .int
  | 4 => .array .int
  | 5 => .array .int
  | 6 => .array .int
  | 7 => .array .int
  | 8 => .array .int
  | 9 => .array .int
  | 10 => .int
  | 11 => .int
  | 12 => .int
  | 13 => .array (.object "EventStructuresModel$Layer")
  | 14 => .array .long
  | 15 => .array .int
  | 16 => .int
  | 17 => .int
  | 18 => .int
  | 19 => .array .int
  | 20 => .array .int
  | 21 => .array .int
  | 22 => .int
  | 23 => .int
  | 24 => .int
  | 25 => .array .int
  | 26 => .array .int
  | 27 => .array .int
  | 28 => .array .int
  | 29 => .array .int
  | 30 => .int
  | 31 => .int
  | 32 => .array .int
  | 33 => .array .long
  | 34 => .object "EventStructuresModel$Structure"
  | 35 => .array .int
  | 36 => .int
  | 37 => .array .int
  | 38 => .int
  | 39 => .int
  | 40 => .int
  | _ => .boolean
abbrev wsX100 : List Cond := u_ws RX10 TX10 42
theorem nmX10 : ∀ a, a < 42 → ∀ b, b < 42 → a ≠ b → (TX10 a).2.1 ≠ (TX10 b).2.1 := by decide +kernel
theorem tyX10_ok : ∀ k, k < 42 → parseFieldDescriptor (TX10 k).2.2.1 = some (tyX10 k) := by decide +kernel
abbrev vwCl : List vw_C := [(RX0, TX0, 13), (RX1, TX1, 7), (RX2, TX2, 6), (RX3, TX3, 8), (RX4, TX4, 8), (RX5, TX5, 8), (RX6, TX6, 17), (RX7, TX7, 15), (RX8, TX8, 4), (RX9, TX9, 7), (RX10, TX10, 42)]
-- ===== tables of names: classes, fields, methods, links, constants (by mknames.py) =====
def cnm : Nat → String := fun k => match k with
  | 0 => "EventStructures$Bisimulation"
  | 1 => "EventStructures$Language"
  | 2 => "EventStructures$Net"
  | 3 => "EventStructures$Space"
  | 4 => "EventStructures$Structure"
  | 5 => "EventStructures$Unfolding"
  | 6 => "EventStructures$Words"
  | 7 => "EventStructures"
  | 8 => "EventStructuresModel$Layer"
  | 9 => "EventStructuresModel$Structure"
  | 10 => "EventStructuresModel"
  | 11 => "EventStructuresLaw"
  | 12 => "java/lang/Integer"
  | 13 => "java/lang/Math"
  | 14 => "java/util/Arrays"
  | 15 => "java/lang/System"
  | _ => "java/lang/Object"
def ALL : List Cond := lw_tbl.filter goodWord
theorem ALL_of {w : Cond} (h : w ∈ lw_tbl) (g : goodWord w = true) : w ∈ ALL := List.mem_filter.mpr ⟨h, g⟩
theorem ALL_in {w : Cond} (h : w ∈ ALL) : w ∈ lw_tbl := (List.mem_filter.mp h).1
theorem ALL_good {w : Cond} (h : w ∈ ALL) : goodWord w = true := (List.mem_filter.mp h).2
theorem tb_in {w : Cond} (h : w ∈ tables_1) : w ∈ lw_tbl := List.mem_append_right _ h
def tch : Nat → List Cond := fun k => match k with
  | 0 => k2_sels lw_privs
  | 1 => tables_1_1
  | 2 => tables_1_2
  | 3 => tables_1_3
  | 4 => tables_1_4
  | 5 => tables_1_5
  | 6 => tables_1_6
  | 7 => tables_1_7
  | _ => []
theorem tch_in {j i : Nat} {w : Cond} (h : (tch j)[i]? = some w) : w ∈ lw_tbl := by
  have h1 : w ∈ tch j := List.mem_of_getElem? h
  match j, h1 with
  | 0, h1 => exact List.mem_append_left _ h1
  | 1, h1 => exact tb_in (by unfold tables_1; exact List.mem_append_left _ h1)
  | 2, h1 => exact tb_in (by unfold tables_1; exact List.mem_append_right _ (List.mem_append_left _ h1))
  | 3, h1 => exact tb_in (by unfold tables_1; exact List.mem_append_right _ (List.mem_append_right _ (List.mem_append_left _ h1)))
  | 4, h1 => exact tb_in (by unfold tables_1; exact List.mem_append_right _ (List.mem_append_right _ (List.mem_append_right _ (List.mem_append_left _ h1))))
  | 5, h1 => exact tb_in (by unfold tables_1; exact List.mem_append_right _ (List.mem_append_right _ (List.mem_append_right _ (List.mem_append_right _ (List.mem_append_left _ h1)))))
  | 6, h1 => exact tb_in (by unfold tables_1; exact List.mem_append_right _ (List.mem_append_right _ (List.mem_append_right _ (List.mem_append_right _ (List.mem_append_right _ (List.mem_append_left _ h1))))))
  | 7, h1 => exact tb_in (by unfold tables_1; exact List.mem_append_right _ (List.mem_append_right _ (List.mem_append_right _ (List.mem_append_right _ (List.mem_append_right _ (List.mem_append_right _ (h1)))))))
  | k + 8, h1 => exact absurd h1 List.not_mem_nil
/-- a method: name, code, its locals, what it returns, its kind (0 static, 1 instance, 2 constructor), how many arguments -/
abbrev ME : Type := (MethodName × ByteArray × Nat × Option FieldType) × (Nat × Nat)
abbrev MP : Type := (Nat × Nat) × (Nat × Nat) × (Nat × Nat) × (Nat × Nat)
def MTB_0 : List (ME × MP) := [
  (((⟨"EventStructures", "<init>", "()V"⟩, prog_1_method_1_code, 3, none), (2, 0)), ((1, 20), (1, 19), (0, 0), (1, 1))),
  (((⟨"EventStructures$Structure", "<init>", "()V"⟩, prog_6_method_1_code, 1, none), (2, 0)), ((1, 30), (1, 29), (0, 0), (1, 3))),
  (((⟨"EventStructures$Space", "<init>", "(LEventStructures$Structure;)V"⟩, prog_5_method_1_code, 2, none), (2, 1)), ((1, 84), (1, 83), (0, 0), (1, 2))),
  (((⟨"EventStructures$Bisimulation", "<init>", "(LEventStructures$Space;LEventStructures$Space;)V"⟩, prog_2_method_1_code, 3, none), (2, 2)), ((1, 126), (1, 125), (0, 0), (1, 4))),
  (((⟨"EventStructures$Words", "<init>", "(LEventStructures$Space;LEventStructures$Space;)V"⟩, prog_8_method_1_code, 3, none), (2, 2)), ((1, 174), (1, 173), (0, 0), (1, 5))),
  (((⟨"EventStructures$Net", "<init>", "()V"⟩, prog_4_method_1_code, 1, none), (2, 0)), ((1, 235), (1, 234), (0, 0), (1, 6))),
  (((⟨"EventStructures$Unfolding", "<init>", "()V"⟩, prog_7_method_1_code, 1, none), (2, 0)), ((2, 26), (2, 25), (0, 0), (1, 7))),
  (((⟨"EventStructures$Language", "<init>", "()V"⟩, prog_3_method_1_code, 1, none), (2, 0)), ((2, 61), (2, 60), (0, 0), (1, 8))),
  (((⟨"EventStructures", "addEvent", "(III)I"⟩, prog_1_method_2_code, 5, some (.int)), (1, 3)), ((2, 137), (2, 135), (2, 136), (1, 1))),
  (((⟨"EventStructures", "structureOf", "(I)LEventStructures$Structure;"⟩, prog_1_method_45_code, 2, some (.object "EventStructures$Structure")), (1, 1)), ((2, 141), (2, 140), (0, 0), (1, 1))),
  (((⟨"EventStructures", "isLabel", "(I)Z"⟩, prog_1_method_48_code, 1, some (.boolean)), (0, 1)), ((2, 144), (2, 143), (0, 0), (1, 1))),
  (((⟨"EventStructures$Structure", "add", "(II)I"⟩, prog_6_method_4_code, 3, some (.int)), (1, 2)), ((2, 149), (2, 147), (2, 148), (1, 3))),
  (((⟨"EventStructures$Structure", "noteChange", "()V"⟩, prog_6_method_3_code, 1, none), (1, 0)), ((2, 153), (2, 152), (0, 1), (1, 3))),
  (((⟨"EventStructures", "removeEvent", "(II)I"⟩, prog_1_method_3_code, 4, some (.int)), (1, 2)), ((2, 157), (2, 155), (2, 156), (1, 1))),
  (((⟨"EventStructures$Structure", "has", "(I)Z"⟩, prog_6_method_2_code, 2, some (.boolean)), (1, 1)), ((2, 161), (2, 159), (2, 160), (1, 3))),
  (((⟨"EventStructures$Structure", "drop", "(I)V"⟩, prog_6_method_5_code, 3, none), (1, 1)), ((2, 165), (2, 163), (2, 164), (1, 3))),
  (((⟨"EventStructures$Structure", "closeGap", "(II)I"⟩, prog_6_method_6_code, 3, some (.int)), (0, 2)), ((2, 168), (2, 167), (0, 0), (1, 3))),
  (((⟨"EventStructures", "addCause", "(III)I"⟩, prog_1_method_4_code, 5, some (.int)), (1, 3)), ((2, 172), (2, 170), (2, 171), (1, 1))),
  (((⟨"EventStructures$Structure", "past", "(I)I"⟩, prog_6_method_12_code, 5, some (.int)), (1, 1)), ((2, 176), (2, 174), (2, 175), (1, 3))),
  (((⟨"EventStructures", "contains", "(II)Z"⟩, prog_1_method_50_code, 2, some (.boolean)), (0, 2)), ((2, 179), (2, 178), (0, 0), (1, 1))),
  (((⟨"EventStructures$Structure", "join", "([III)I"⟩, prog_6_method_7_code, 5, some (.int)), (1, 3)), ((2, 184), (2, 182), (2, 183), (1, 3))),
  (((⟨"EventStructures", "addConflict", "(III)I"⟩, prog_1_method_5_code, 5, some (.int)), (1, 3)), ((2, 188), (2, 186), (2, 187), (1, 1))),
  (((⟨"EventStructures", "setLabel", "(III)I"⟩, prog_1_method_6_code, 5, some (.int)), (1, 3)), ((2, 192), (2, 190), (2, 191), (1, 1))),
  (((⟨"EventStructures$Structure", "relabel", "(II)I"⟩, prog_6_method_8_code, 4, some (.int)), (1, 2)), ((2, 196), (2, 194), (2, 195), (1, 3))),
  (((⟨"EventStructures", "clear", "(I)I"⟩, prog_1_method_7_code, 4, some (.int)), (1, 1)), ((2, 200), (2, 198), (2, 199), (1, 1))),
  (((⟨"EventStructures$Structure", "empty", "()V"⟩, prog_6_method_9_code, 1, none), (1, 0)), ((2, 204), (2, 202), (2, 203), (1, 3))),
  (((⟨"EventStructures", "copy", "(II)I"⟩, prog_1_method_8_code, 5, some (.int)), (1, 2)), ((2, 208), (2, 206), (2, 207), (1, 1))),
  (((⟨"EventStructures$Structure", "become", "(LEventStructures$Structure;)V"⟩, prog_6_method_10_code, 3, none), (1, 1)), ((2, 212), (2, 210), (2, 211), (1, 3))),
  (((⟨"EventStructures", "eventCount", "(I)I"⟩, prog_1_method_9_code, 3, some (.int)), (1, 1)), ((2, 216), (2, 214), (2, 215), (1, 1))),
  (((⟨"EventStructures", "label", "(II)I"⟩, prog_1_method_10_code, 4, some (.int)), (1, 2)), ((2, 220), (2, 218), (2, 219), (1, 1))),
  (((⟨"EventStructures", "isBelow", "(III)I"⟩, prog_1_method_11_code, 5, some (.int)), (1, 3)), ((2, 224), (2, 222), (2, 223), (1, 1))),
  (((⟨"EventStructures", "spaceOf", "(I)LEventStructures$Space;"⟩, prog_1_method_46_code, 3, some (.object "EventStructures$Space")), (1, 1)), ((2, 228), (2, 227), (0, 2), (1, 1))),
  (((⟨"EventStructures$Space", "refresh", "()V"⟩, prog_5_method_2_code, 2, none), (1, 0)), ((2, 232), (2, 230), (2, 231), (1, 2))),
  (((⟨"EventStructures$Space", "findClashes", "(I)I"⟩, prog_5_method_3_code, 5, some (.int)), (1, 1)), ((2, 237), (2, 236), (0, 3), (1, 2))),
  (((⟨"EventStructures$Structure", "holds", "(I)Z"⟩, prog_6_method_13_code, 3, some (.boolean)), (1, 1)), ((3, 2), (3, 0), (3, 1), (1, 3))),
  (((⟨"EventStructures$Space", "findOpen", "(I)I"⟩, prog_5_method_4_code, 4, some (.int)), (1, 1)), ((3, 6), (3, 5), (0, 4), (1, 2))),
  (((⟨"EventStructures", "areInConflict", "(III)I"⟩, prog_1_method_12_code, 5, some (.int)), (1, 3)), ((3, 10), (3, 8), (3, 9), (1, 1))),
  (((⟨"EventStructures", "history", "(II)I"⟩, prog_1_method_13_code, 4, some (.int)), (1, 2)), ((3, 14), (3, 12), (3, 13), (1, 1))),
  (((⟨"EventStructures", "concurrentPairs", "(I)I"⟩, prog_1_method_14_code, 3, some (.int)), (1, 1)), ((3, 18), (3, 16), (3, 17), (1, 1))),
  (((⟨"EventStructures$Space", "countConcurrentPairs", "()I"⟩, prog_5_method_7_code, 5, some (.int)), (1, 0)), ((3, 22), (3, 20), (3, 21), (1, 2)))]
def MTB_1 : List (ME × MP) := [
  (((⟨"EventStructures", "isConfiguration", "(II)I"⟩, prog_1_method_15_code, 4, some (.int)), (1, 2)), ((3, 26), (3, 24), (3, 25), (1, 1))),
  (((⟨"EventStructures$Space", "holds", "(I)Z"⟩, prog_5_method_5_code, 2, some (.boolean)), (1, 1)), ((3, 30), (3, 28), (3, 29), (1, 2))),
  (((⟨"EventStructures", "configurationCount", "(I)I"⟩, prog_1_method_16_code, 3, some (.int)), (1, 1)), ((3, 34), (3, 32), (3, 33), (1, 1))),
  (((⟨"EventStructures$Space", "countConfigurations", "()I"⟩, prog_5_method_8_code, 3, some (.int)), (1, 0)), ((3, 38), (3, 36), (3, 37), (1, 2))),
  (((⟨"EventStructures", "maximalCount", "(I)I"⟩, prog_1_method_17_code, 3, some (.int)), (1, 1)), ((3, 42), (3, 40), (3, 41), (1, 1))),
  (((⟨"EventStructures$Space", "countMaximal", "()I"⟩, prog_5_method_10_code, 3, some (.int)), (1, 0)), ((3, 46), (3, 44), (3, 45), (1, 2))),
  (((⟨"EventStructures$Space", "isMaximal", "(I)Z"⟩, prog_5_method_9_code, 2, some (.boolean)), (1, 1)), ((3, 50), (3, 49), (0, 5), (1, 2))),
  (((⟨"EventStructures", "maximalConfiguration", "(II)I"⟩, prog_1_method_18_code, 4, some (.int)), (1, 2)), ((3, 54), (3, 52), (3, 53), (1, 1))),
  (((⟨"EventStructures$Space", "findMaximal", "(I)I"⟩, prog_5_method_11_code, 4, some (.int)), (1, 1)), ((3, 58), (3, 56), (3, 57), (1, 2))),
  (((⟨"EventStructures", "enabled", "(II)I"⟩, prog_1_method_19_code, 4, some (.int)), (1, 2)), ((3, 62), (3, 60), (3, 61), (1, 1))),
  (((⟨"EventStructures", "stepCount", "(II)I"⟩, prog_1_method_20_code, 4, some (.int)), (1, 2)), ((3, 66), (3, 64), (3, 65), (1, 1))),
  (((⟨"EventStructures$Space", "countSteps", "(I)I"⟩, prog_5_method_13_code, 5, some (.int)), (1, 1)), ((3, 70), (3, 68), (3, 69), (1, 2))),
  (((⟨"EventStructures$Space", "opensAt", "(I)I"⟩, prog_5_method_6_code, 2, some (.int)), (1, 1)), ((3, 74), (3, 72), (3, 73), (1, 2))),
  (((⟨"EventStructures$Space", "isStep", "(II)Z"⟩, prog_5_method_12_code, 3, some (.boolean)), (1, 2)), ((3, 79), (3, 77), (3, 78), (1, 2))),
  (((⟨"EventStructures", "largestStep", "(II)I"⟩, prog_1_method_21_code, 4, some (.int)), (1, 2)), ((3, 83), (3, 81), (3, 82), (1, 1))),
  (((⟨"EventStructures$Space", "findLargestStep", "(I)I"⟩, prog_5_method_14_code, 5, some (.int)), (1, 1)), ((3, 87), (3, 85), (3, 86), (1, 2))),
  (((⟨"java/lang/Integer", "bitCount", "(I)I"⟩, prog_13_method_49_code, 1, some (.int)), (0, 1)), ((3, 90), (3, 89), (0, 0), (1, 13))),
  (((⟨"EventStructures", "runCount", "(II)I"⟩, prog_1_method_22_code, 3, some (.int)), (1, 2)), ((3, 97), (3, 95), (3, 96), (1, 1))),
  (((⟨"EventStructures", "countWays", "(IIZ)I"⟩, prog_1_method_47_code, 5, some (.int)), (1, 3)), ((3, 101), (3, 100), (0, 6), (1, 1))),
  (((⟨"EventStructures$Space", "countWays", "(IZ)I"⟩, prog_5_method_15_code, 4, some (.int)), (1, 2)), ((3, 105), (3, 103), (3, 104), (1, 2))),
  (((⟨"EventStructures$Space", "sumOfWays", "(IZ)I"⟩, prog_5_method_16_code, 5, some (.int)), (1, 2)), ((3, 109), (3, 108), (0, 7), (1, 2))),
  (((⟨"EventStructures", "stepRunCount", "(II)I"⟩, prog_1_method_23_code, 3, some (.int)), (1, 2)), ((3, 113), (3, 111), (3, 112), (1, 1))),
  (((⟨"EventStructures", "shortestTime", "(II)I"⟩, prog_1_method_24_code, 4, some (.int)), (1, 2)), ((3, 117), (3, 115), (3, 116), (1, 1))),
  (((⟨"EventStructures$Space", "longestChain", "(I)J"⟩, prog_5_method_18_code, 6, some (.long)), (1, 1)), ((3, 121), (3, 119), (3, 120), (1, 2))),
  (((⟨"java/util/Arrays", "fill", "([JJ)V"⟩, prog_16_method_101_code, 5, none), (0, 2)), ((3, 124), (3, 123), (0, 0), (1, 14))),
  (((⟨"EventStructures$Space", "longestBefore", "(I)J"⟩, prog_5_method_19_code, 5, some (.long)), (1, 1)), ((3, 128), (3, 127), (0, 8), (1, 2))),
  (((⟨"java/lang/Math", "max", "(JJ)J"⟩, prog_14_method_66_code, 4, some (.long)), (0, 2)), ((3, 131), (3, 130), (0, 0), (1, 15))),
  (((⟨"EventStructures", "asTime", "(J)I"⟩, prog_1_method_51_code, 2, some (.int)), (0, 1)), ((3, 134), (3, 133), (0, 0), (1, 1))),
  (((⟨"EventStructures", "totalTime", "(II)I"⟩, prog_1_method_25_code, 4, some (.int)), (1, 2)), ((3, 139), (3, 137), (3, 138), (1, 1))),
  (((⟨"EventStructures$Space", "sumOfDurations", "(I)J"⟩, prog_5_method_17_code, 5, some (.long)), (1, 1)), ((3, 143), (3, 141), (3, 142), (1, 2))),
  (((⟨"EventStructures", "occur", "(II)I"⟩, prog_1_method_26_code, 4, some (.int)), (1, 2)), ((3, 147), (3, 145), (3, 146), (1, 1))),
  (((⟨"EventStructures", "withdraw", "(II)I"⟩, prog_1_method_27_code, 5, some (.int)), (1, 2)), ((3, 152), (3, 150), (3, 151), (1, 1))),
  (((⟨"EventStructures", "current", "(I)I"⟩, prog_1_method_28_code, 3, some (.int)), (1, 1)), ((3, 156), (3, 154), (3, 155), (1, 1))),
  (((⟨"EventStructures", "areBisimilar", "(I)I"⟩, prog_1_method_29_code, 2, some (.int)), (1, 1)), ((3, 160), (3, 158), (3, 159), (1, 1))),
  (((⟨"EventStructures", "isKind", "(I)Z"⟩, prog_1_method_49_code, 1, some (.boolean)), (0, 1)), ((3, 163), (3, 162), (0, 0), (1, 1))),
  (((⟨"EventStructures$Bisimulation", "roundOfSeparation", "(I)I"⟩, prog_2_method_2_code, 2, some (.int)), (1, 1)), ((3, 167), (3, 165), (3, 166), (1, 4))),
  (((⟨"EventStructures$Bisimulation", "settle", "(I)V"⟩, prog_2_method_4_code, 5, none), (1, 1)), ((3, 171), (3, 170), (0, 9), (1, 4))),
  (((⟨"EventStructures$Bisimulation", "nameSets", "(I)V"⟩, prog_2_method_5_code, 7, none), (1, 1)), ((3, 176), (3, 175), (0, 10), (1, 4))),
  (((⟨"EventStructures$Bisimulation", "runRounds", "(I)V"⟩, prog_2_method_6_code, 4, none), (1, 1)), ((3, 182), (3, 181), (0, 11), (1, 4))),
  (((⟨"java/util/Arrays", "fill", "([II)V"⟩, prog_16_method_103_code, 4, none), (0, 2)), ((3, 185), (3, 184), (0, 0), (1, 14)))]
def MTB_2 : List (ME × MP) := [
  (((⟨"EventStructures$Bisimulation", "splitClasses", "(Z)I"⟩, prog_2_method_7_code, 5, some (.int)), (1, 1)), ((3, 189), (3, 188), (0, 12), (1, 4))),
  (((⟨"EventStructures$Bisimulation", "gatherMoves", "(IZ)V"⟩, prog_2_method_8_code, 8, none), (1, 2)), ((3, 193), (3, 192), (0, 13), (1, 4))),
  (((⟨"EventStructures$Bisimulation", "insertMove", "(I)V"⟩, prog_2_method_9_code, 5, none), (1, 1)), ((3, 198), (3, 197), (0, 14), (1, 4))),
  (((⟨"EventStructures$Bisimulation", "findClass", "(II)I"⟩, prog_2_method_10_code, 4, some (.int)), (1, 2)), ((3, 202), (3, 201), (0, 15), (1, 4))),
  (((⟨"EventStructures$Bisimulation", "hasMoves", "(I)Z"⟩, prog_2_method_11_code, 4, some (.boolean)), (1, 1)), ((3, 206), (3, 205), (0, 16), (1, 4))),
  (((⟨"EventStructures$Bisimulation", "openClass", "(II)V"⟩, prog_2_method_12_code, 5, none), (1, 2)), ((3, 210), (3, 209), (0, 17), (1, 4))),
  (((⟨"EventStructures", "separationRound", "(I)I"⟩, prog_1_method_30_code, 3, some (.int)), (1, 1)), ((3, 214), (3, 212), (3, 213), (1, 1))),
  (((⟨"EventStructures", "equivalenceClasses", "(I)I"⟩, prog_1_method_31_code, 2, some (.int)), (1, 1)), ((3, 218), (3, 216), (3, 217), (1, 1))),
  (((⟨"EventStructures$Bisimulation", "countClasses", "(I)I"⟩, prog_2_method_3_code, 2, some (.int)), (1, 1)), ((3, 222), (3, 220), (3, 221), (1, 4))),
  (((⟨"EventStructures", "wordDifferenceLength", "()I"⟩, prog_1_method_32_code, 2, some (.int)), (1, 0)), ((3, 226), (3, 224), (3, 225), (1, 1))),
  (((⟨"EventStructures$Words", "lengthOfDifference", "()I"⟩, prog_8_method_3_code, 3, some (.int)), (1, 0)), ((3, 230), (3, 228), (3, 229), (1, 5))),
  (((⟨"EventStructures$Words", "begin", "(ZZ)V"⟩, prog_8_method_5_code, 6, none), (1, 2)), ((3, 234), (3, 233), (0, 18), (1, 5))),
  (((⟨"EventStructures$Words", "seekDifference", "(LEventStructures$Words;I)V"⟩, prog_8_method_8_code, 6, none), (0, 2)), ((3, 239), (3, 238), (0, 0), (1, 5))),
  (((⟨"EventStructures$Words", "findSlot", "(I)I"⟩, prog_8_method_10_code, 7, some (.int)), (1, 1)), ((4, 3), (4, 2), (0, 19), (1, 5))),
  (((⟨"EventStructures$Words", "isKept", "(II)Z"⟩, prog_8_method_11_code, 4, some (.boolean)), (1, 2)), ((4, 8), (4, 7), (0, 20), (1, 5))),
  (((⟨"EventStructures$Words", "keep", "(III)V"⟩, prog_8_method_12_code, 5, none), (1, 3)), ((4, 12), (4, 11), (0, 21), (1, 5))),
  (((⟨"EventStructures$Words", "advance", "(III)Z"⟩, prog_8_method_6_code, 13, some (.boolean)), (1, 3)), ((4, 16), (4, 15), (0, 22), (1, 5))),
  (((⟨"EventStructures$Words", "keepDifference", "(I)V"⟩, prog_8_method_9_code, 3, none), (1, 1)), ((4, 21), (4, 20), (0, 23), (1, 5))),
  (((⟨"EventStructures", "wordDifferenceLabel", "(I)I"⟩, prog_1_method_33_code, 2, some (.int)), (1, 1)), ((4, 25), (4, 23), (4, 24), (1, 1))),
  (((⟨"EventStructures$Words", "labelOfDifference", "(I)I"⟩, prog_8_method_4_code, 2, some (.int)), (1, 1)), ((4, 29), (4, 27), (4, 28), (1, 5))),
  (((⟨"EventStructures", "wordCount", "(I)I"⟩, prog_1_method_34_code, 2, some (.int)), (1, 1)), ((4, 33), (4, 31), (4, 32), (1, 1))),
  (((⟨"EventStructures$Words", "countWords", "(I)I"⟩, prog_8_method_2_code, 2, some (.int)), (1, 1)), ((4, 37), (4, 35), (4, 36), (1, 5))),
  (((⟨"EventStructures$Words", "countFrom", "(LEventStructures$Words;II)I"⟩, prog_8_method_7_code, 6, some (.int)), (0, 3)), ((4, 40), (4, 39), (0, 0), (1, 5))),
  (((⟨"EventStructures", "refine", "(IIIIZ)I"⟩, prog_1_method_35_code, 7, some (.int)), (1, 5)), ((4, 44), (4, 42), (4, 43), (1, 1))),
  (((⟨"EventStructures$Structure", "becomeRefinement", "(LEventStructures$Structure;III)Z"⟩, prog_6_method_14_code, 7, some (.boolean)), (1, 4)), ((4, 48), (4, 46), (4, 47), (1, 3))),
  (((⟨"EventStructures$Structure", "addFor", "(LEventStructures$Structure;II)Z"⟩, prog_6_method_15_code, 5, some (.boolean)), (1, 3)), ((4, 53), (4, 52), (0, 24), (1, 3))),
  (((⟨"EventStructures$Structure", "spread", "(I)I"⟩, prog_6_method_16_code, 4, some (.int)), (1, 1)), ((4, 58), (4, 57), (0, 25), (1, 3))),
  (((⟨"EventStructures$Structure", "orderTwins", "()V"⟩, prog_6_method_17_code, 2, none), (1, 0)), ((4, 62), (4, 60), (4, 61), (1, 3))),
  (((⟨"EventStructures", "clearNet", "()I"⟩, prog_1_method_36_code, 2, some (.int)), (1, 0)), ((4, 66), (4, 64), (4, 65), (1, 1))),
  (((⟨"EventStructures$Net", "empty", "()V"⟩, prog_4_method_2_code, 1, none), (1, 0)), ((4, 70), (4, 68), (4, 69), (1, 6))),
  (((⟨"EventStructures", "addPlace", "(Z)I"⟩, prog_1_method_37_code, 2, some (.int)), (1, 1)), ((4, 74), (4, 72), (4, 73), (1, 1))),
  (((⟨"EventStructures$Net", "putPlace", "(Z)I"⟩, prog_4_method_4_code, 2, some (.int)), (1, 1)), ((4, 78), (4, 76), (4, 77), (1, 6))),
  (((⟨"EventStructures", "addTransition", "(III)I"⟩, prog_1_method_38_code, 4, some (.int)), (1, 3)), ((4, 82), (4, 80), (4, 81), (1, 1))),
  (((⟨"EventStructures$Net", "hasPlaces", "(I)Z"⟩, prog_4_method_3_code, 2, some (.boolean)), (1, 1)), ((4, 86), (4, 84), (4, 85), (1, 6))),
  (((⟨"EventStructures$Net", "putTransition", "(III)I"⟩, prog_4_method_5_code, 4, some (.int)), (1, 3)), ((4, 90), (4, 88), (4, 89), (1, 6))),
  (((⟨"EventStructures", "unfold", "(I)I"⟩, prog_1_method_39_code, 3, some (.int)), (1, 1)), ((4, 94), (4, 92), (4, 93), (1, 1))),
  (((⟨"EventStructures$Unfolding", "build", "(LEventStructures$Net;)Z"⟩, prog_7_method_2_code, 4, some (.boolean)), (1, 1)), ((4, 98), (4, 96), (4, 97), (1, 7))),
  (((⟨"EventStructures$Unfolding", "produce", "(II)V"⟩, prog_7_method_3_code, 4, none), (1, 2)), ((4, 103), (4, 102), (0, 26), (1, 7))),
  (((⟨"EventStructures$Unfolding", "findNext", "(LEventStructures$Net;)I"⟩, prog_7_method_4_code, 3, some (.int)), (1, 1)), ((4, 108), (4, 107), (0, 27), (1, 7))),
  (((⟨"EventStructures$Unfolding", "seekRow", "(LEventStructures$Unfolding;IIIJ)Z"⟩, prog_7_method_5_code, 9, some (.boolean)), (0, 5)), ((4, 111), (4, 110), (0, 0), (1, 7)))]
def MTB_3 : List (ME × MP) := [
  (((⟨"EventStructures$Unfolding", "isMade", "(IJ)Z"⟩, prog_7_method_6_code, 5, some (.boolean)), (1, 2)), ((4, 115), (4, 114), (0, 28), (1, 7))),
  (((⟨"EventStructures$Unfolding", "canHold", "(J)Z"⟩, prog_7_method_7_code, 5, some (.boolean)), (1, 1)), ((4, 119), (4, 118), (0, 29), (1, 7))),
  (((⟨"EventStructures$Unfolding", "producersWithPasts", "(J)I"⟩, prog_7_method_8_code, 6, some (.int)), (1, 1)), ((4, 123), (4, 122), (0, 30), (1, 7))),
  (((⟨"EventStructures$Unfolding", "create", "(LEventStructures$Net;I)Z"⟩, prog_7_method_9_code, 5, some (.boolean)), (1, 2)), ((4, 129), (4, 128), (0, 31), (1, 7))),
  (((⟨"EventStructures", "conditionCount", "()I"⟩, prog_1_method_40_code, 1, some (.int)), (1, 0)), ((4, 134), (4, 132), (4, 133), (1, 1))),
  (((⟨"EventStructures", "append", "(I)I"⟩, prog_1_method_41_code, 2, some (.int)), (1, 1)), ((4, 138), (4, 136), (4, 137), (1, 1))),
  (((⟨"EventStructures$Language", "put", "(I)I"⟩, prog_3_method_2_code, 2, some (.int)), (1, 1)), ((4, 142), (4, 140), (4, 141), (1, 8))),
  (((⟨"EventStructures", "parse", "(I)I"⟩, prog_1_method_42_code, 5, some (.int)), (1, 1)), ((4, 146), (4, 144), (4, 145), (1, 1))),
  (((⟨"EventStructures$Language", "errorPosition", "()I"⟩, prog_3_method_6_code, 5, some (.int)), (1, 0)), ((4, 150), (4, 148), (4, 149), (1, 8))),
  (((⟨"EventStructures$Language", "isAtom", "(I)Z"⟩, prog_3_method_5_code, 1, some (.boolean)), (0, 1)), ((4, 153), (4, 152), (0, 0), (1, 8))),
  (((⟨"EventStructures$Language", "rank", "(I)I"⟩, prog_3_method_4_code, 1, some (.int)), (0, 1)), ((4, 156), (4, 155), (0, 0), (1, 8))),
  (((⟨"EventStructures$Language", "evaluate", "()Z"⟩, prog_3_method_7_code, 4, some (.boolean)), (1, 0)), ((4, 160), (4, 158), (4, 159), (1, 8))),
  (((⟨"EventStructures$Language", "applyWaiting", "(I)Z"⟩, prog_3_method_11_code, 4, some (.boolean)), (1, 1)), ((4, 165), (4, 164), (0, 32), (1, 8))),
  (((⟨"EventStructures$Language", "exclude", "(II)V"⟩, prog_3_method_12_code, 5, none), (1, 2)), ((4, 169), (4, 168), (0, 33), (1, 8))),
  (((⟨"EventStructures$Language", "continueWithCopies", "(II)Z"⟩, prog_3_method_13_code, 9, some (.boolean)), (1, 2)), ((4, 173), (4, 172), (0, 34), (1, 8))),
  (((⟨"EventStructures$Language", "isMaximal", "(III)Z"⟩, prog_3_method_14_code, 5, some (.boolean)), (1, 3)), ((4, 177), (4, 176), (0, 35), (1, 8))),
  (((⟨"EventStructures$Language", "dropParenthesis", "()V"⟩, prog_3_method_8_code, 1, none), (1, 0)), ((4, 184), (4, 183), (0, 36), (1, 8))),
  (((⟨"EventStructures$Language", "openOperand", "()V"⟩, prog_3_method_10_code, 1, none), (1, 0)), ((4, 188), (4, 187), (0, 37), (1, 8))),
  (((⟨"EventStructures$Language", "keepWaiting", "(I)V"⟩, prog_3_method_9_code, 2, none), (1, 1)), ((4, 192), (4, 191), (0, 38), (1, 8))),
  (((⟨"EventStructures$Language", "empty", "()V"⟩, prog_3_method_3_code, 1, none), (1, 0)), ((4, 196), (4, 194), (4, 195), (1, 8))),
  (((⟨"EventStructures", "save", "()I"⟩, prog_1_method_43_code, 1, some (.int)), (1, 0)), ((4, 200), (4, 198), (4, 199), (1, 1))),
  (((⟨"EventStructures$Structure", "becomeWithCurrent", "(LEventStructures$Structure;)V"⟩, prog_6_method_11_code, 2, none), (1, 1)), ((4, 204), (4, 202), (4, 203), (1, 3))),
  (((⟨"EventStructures$Net", "become", "(LEventStructures$Net;)V"⟩, prog_4_method_6_code, 3, none), (1, 1)), ((4, 209), (4, 207), (4, 208), (1, 6))),
  (((⟨"EventStructures", "restore", "()I"⟩, prog_1_method_44_code, 1, some (.int)), (1, 0)), ((4, 213), (4, 211), (4, 212), (1, 1))),
  (((⟨"EventStructuresModel", "<init>", "()V"⟩, prog_10_method_1_code, 1, none), (2, 0)), ((4, 218), (4, 217), (0, 0), (1, 9))),
  (((⟨"EventStructuresModel$Structure", "<init>", "()V"⟩, prog_12_method_1_code, 1, none), (2, 0)), ((4, 225), (4, 224), (0, 0), (1, 10))),
  (((⟨"EventStructuresModel$Layer", "<init>", "()V"⟩, prog_11_method_1_code, 1, none), (2, 0)), ((5, 19), (5, 18), (0, 0), (1, 11))),
  (((⟨"EventStructuresModel", "addEvent", "(III)I"⟩, prog_10_method_7_code, 5, some (.int)), (1, 3)), ((5, 168), (5, 166), (5, 167), (1, 9))),
  (((⟨"EventStructuresModel", "isStructure", "(I)Z"⟩, prog_10_method_3_code, 1, some (.boolean)), (0, 1)), ((5, 171), (5, 170), (0, 0), (1, 9))),
  (((⟨"EventStructuresModel", "in", "(III)Z"⟩, prog_10_method_2_code, 3, some (.boolean)), (0, 3)), ((5, 174), (5, 173), (0, 0), (1, 9))),
  (((⟨"EventStructuresModel", "isLabel", "(I)Z"⟩, prog_10_method_4_code, 1, some (.boolean)), (0, 1)), ((5, 177), (5, 176), (0, 0), (1, 9))),
  (((⟨"EventStructuresModel$Structure", "add", "(III)V"⟩, prog_12_method_3_code, 4, none), (1, 3)), ((5, 182), (5, 180), (5, 181), (1, 10))),
  (((⟨"EventStructuresModel", "removeEvent", "(II)I"⟩, prog_10_method_9_code, 5, some (.int)), (1, 2)), ((5, 186), (5, 184), (5, 185), (1, 9))),
  (((⟨"EventStructuresModel", "isEvent", "(II)Z"⟩, prog_10_method_5_code, 3, some (.boolean)), (1, 2)), ((5, 190), (5, 189), (0, 39), (1, 9))),
  (((⟨"EventStructuresModel", "without", "(II)I"⟩, prog_10_method_8_code, 3, some (.int)), (0, 2)), ((5, 193), (5, 192), (0, 0), (1, 9))),
  (((⟨"EventStructuresModel", "addCause", "(III)I"⟩, prog_10_method_10_code, 6, some (.int)), (1, 3)), ((5, 197), (5, 195), (5, 196), (1, 9))),
  (((⟨"EventStructuresModel$Structure", "isBelow", "(II)Z"⟩, prog_12_method_7_code, 3, some (.boolean)), (1, 2)), ((5, 201), (5, 199), (5, 200), (1, 10))),
  (((⟨"EventStructuresModel$Structure", "history", "(I)I"⟩, prog_12_method_6_code, 5, some (.int)), (1, 1)), ((5, 205), (5, 203), (5, 204), (1, 10))),
  (((⟨"EventStructuresModel", "addConflict", "(III)I"⟩, prog_10_method_11_code, 6, some (.int)), (1, 3)), ((5, 209), (5, 207), (5, 208), (1, 9))),
  (((⟨"EventStructuresModel$Structure", "addConflict", "(II)V"⟩, prog_12_method_4_code, 3, none), (1, 2)), ((5, 213), (5, 211), (5, 212), (1, 10)))]
def MTB_4 : List (ME × MP) := [
  (((⟨"EventStructuresModel", "setLabel", "(III)I"⟩, prog_10_method_12_code, 6, some (.int)), (1, 3)), ((5, 217), (5, 215), (5, 216), (1, 9))),
  (((⟨"EventStructuresModel", "clear", "(I)I"⟩, prog_10_method_13_code, 3, some (.int)), (1, 1)), ((5, 221), (5, 219), (5, 220), (1, 9))),
  (((⟨"EventStructuresModel", "copy", "(II)I"⟩, prog_10_method_14_code, 3, some (.int)), (1, 2)), ((5, 225), (5, 223), (5, 224), (1, 9))),
  (((⟨"EventStructuresModel$Structure", "copyFrom", "(LEventStructuresModel$Structure;)V"⟩, prog_12_method_2_code, 2, none), (1, 1)), ((5, 229), (5, 227), (5, 228), (1, 10))),
  (((⟨"EventStructuresModel", "eventCount", "(I)I"⟩, prog_10_method_15_code, 2, some (.int)), (1, 1)), ((5, 236), (5, 234), (5, 235), (1, 9))),
  (((⟨"EventStructuresModel", "label", "(II)I"⟩, prog_10_method_16_code, 3, some (.int)), (1, 2)), ((6, 0), (5, 238), (5, 239), (1, 9))),
  (((⟨"EventStructuresModel", "isBelow", "(III)I"⟩, prog_10_method_17_code, 4, some (.int)), (1, 3)), ((6, 4), (6, 2), (6, 3), (1, 9))),
  (((⟨"EventStructuresModel", "areInConflict", "(III)I"⟩, prog_10_method_18_code, 4, some (.int)), (1, 3)), ((6, 8), (6, 6), (6, 7), (1, 9))),
  (((⟨"EventStructuresModel$Structure", "inConflict", "(II)Z"⟩, prog_12_method_8_code, 7, some (.boolean)), (1, 2)), ((6, 12), (6, 10), (6, 11), (1, 10))),
  (((⟨"EventStructuresModel", "history", "(II)I"⟩, prog_10_method_19_code, 3, some (.int)), (1, 2)), ((6, 16), (6, 14), (6, 15), (1, 9))),
  (((⟨"EventStructuresModel", "concurrentPairs", "(I)I"⟩, prog_10_method_20_code, 6, some (.int)), (1, 1)), ((6, 21), (6, 19), (6, 20), (1, 9))),
  (((⟨"EventStructuresModel$Structure", "areConcurrent", "(II)Z"⟩, prog_12_method_9_code, 3, some (.boolean)), (1, 2)), ((6, 25), (6, 23), (6, 24), (1, 10))),
  (((⟨"EventStructuresModel", "isConfiguration", "(II)I"⟩, prog_10_method_21_code, 3, some (.int)), (1, 2)), ((6, 31), (6, 29), (6, 30), (1, 9))),
  (((⟨"EventStructuresModel", "isConfig", "(II)Z"⟩, prog_10_method_6_code, 3, some (.boolean)), (1, 2)), ((6, 35), (6, 34), (0, 40), (1, 9))),
  (((⟨"EventStructuresModel$Structure", "isConfiguration", "(I)Z"⟩, prog_12_method_10_code, 3, some (.boolean)), (1, 1)), ((6, 39), (6, 37), (6, 38), (1, 10))),
  (((⟨"EventStructuresModel$Structure", "all", "()I"⟩, prog_12_method_5_code, 1, some (.int)), (1, 0)), ((6, 43), (6, 41), (6, 42), (1, 10))),
  (((⟨"EventStructuresModel", "configurationCount", "(I)I"⟩, prog_10_method_22_code, 4, some (.int)), (1, 1)), ((6, 47), (6, 45), (6, 46), (1, 9))),
  (((⟨"EventStructuresModel", "maximalCount", "(I)I"⟩, prog_10_method_23_code, 4, some (.int)), (1, 1)), ((6, 51), (6, 49), (6, 50), (1, 9))),
  (((⟨"EventStructuresModel$Structure", "isMaximal", "(I)Z"⟩, prog_12_method_12_code, 3, some (.boolean)), (1, 1)), ((6, 55), (6, 53), (6, 54), (1, 10))),
  (((⟨"EventStructuresModel", "maximalConfiguration", "(II)I"⟩, prog_10_method_24_code, 5, some (.int)), (1, 2)), ((6, 60), (6, 58), (6, 59), (1, 9))),
  (((⟨"EventStructuresModel", "enabled", "(II)I"⟩, prog_10_method_26_code, 4, some (.int)), (1, 2)), ((6, 64), (6, 62), (6, 63), (1, 9))),
  (((⟨"EventStructuresModel", "problem", "(II)I"⟩, prog_10_method_25_code, 3, some (.int)), (1, 2)), ((6, 68), (6, 67), (0, 41), (1, 9))),
  (((⟨"EventStructuresModel$Structure", "enabled", "(I)I"⟩, prog_12_method_11_code, 4, some (.int)), (1, 1)), ((6, 72), (6, 70), (6, 71), (1, 10))),
  (((⟨"EventStructuresModel", "stepCount", "(II)I"⟩, prog_10_method_27_code, 6, some (.int)), (1, 2)), ((6, 76), (6, 74), (6, 75), (1, 9))),
  (((⟨"EventStructuresModel$Structure", "prepare", "()V"⟩, prog_12_method_13_code, 3, none), (1, 0)), ((6, 80), (6, 78), (6, 79), (1, 10))),
  (((⟨"EventStructuresModel$Structure", "isStep", "(II)Z"⟩, prog_12_method_15_code, 3, some (.boolean)), (1, 2)), ((6, 85), (6, 83), (6, 84), (1, 10))),
  (((⟨"EventStructuresModel$Structure", "isConcurrent", "(I)Z"⟩, prog_12_method_14_code, 4, some (.boolean)), (1, 1)), ((6, 90), (6, 88), (6, 89), (1, 10))),
  (((⟨"EventStructuresModel", "largestStep", "(II)I"⟩, prog_10_method_28_code, 6, some (.int)), (1, 2)), ((6, 94), (6, 92), (6, 93), (1, 9))),
  (((⟨"EventStructuresModel", "runCount", "(II)I"⟩, prog_10_method_30_code, 4, some (.int)), (1, 2)), ((6, 99), (6, 97), (6, 98), (1, 9))),
  (((⟨"EventStructuresModel", "ways", "(LEventStructuresModel$Structure;IZ)I"⟩, prog_10_method_29_code, 8, some (.int)), (1, 3)), ((6, 103), (6, 102), (0, 42), (1, 9))),
  (((⟨"EventStructuresModel", "stepRunCount", "(II)I"⟩, prog_10_method_31_code, 4, some (.int)), (1, 2)), ((6, 107), (6, 105), (6, 106), (1, 9))),
  (((⟨"EventStructuresModel", "shortestTime", "(II)I"⟩, prog_10_method_34_code, 7, some (.int)), (1, 2)), ((6, 111), (6, 109), (6, 110), (1, 9))),
  (((⟨"EventStructuresModel", "timeTo", "(LEventStructuresModel$Structure;I)J"⟩, prog_10_method_32_code, 5, some (.long)), (0, 2)), ((6, 114), (6, 113), (0, 0), (1, 9))),
  (((⟨"EventStructuresModel", "fitted", "(J)I"⟩, prog_10_method_33_code, 2, some (.int)), (0, 1)), ((6, 118), (6, 117), (0, 0), (1, 9))),
  (((⟨"EventStructuresModel", "totalTime", "(II)I"⟩, prog_10_method_35_code, 7, some (.int)), (1, 2)), ((6, 123), (6, 121), (6, 122), (1, 9))),
  (((⟨"EventStructuresModel", "occur", "(II)I"⟩, prog_10_method_36_code, 4, some (.int)), (1, 2)), ((6, 127), (6, 125), (6, 126), (1, 9))),
  (((⟨"EventStructuresModel", "withdraw", "(II)I"⟩, prog_10_method_37_code, 6, some (.int)), (1, 2)), ((6, 131), (6, 129), (6, 130), (1, 9))),
  (((⟨"EventStructuresModel", "current", "(I)I"⟩, prog_10_method_38_code, 2, some (.int)), (1, 1)), ((6, 135), (6, 133), (6, 134), (1, 9))),
  (((⟨"EventStructuresModel", "areBisimilar", "(I)I"⟩, prog_10_method_43_code, 2, some (.int)), (1, 1)), ((6, 139), (6, 137), (6, 138), (1, 9))),
  (((⟨"EventStructuresModel", "compare", "(I)V"⟩, prog_10_method_42_code, 7, none), (1, 1)), ((6, 143), (6, 142), (0, 43), (1, 9)))]
def MTB_5 : List (ME × MP) := [
  (((⟨"EventStructuresModel", "findMoves", "(Z)V"⟩, prog_10_method_40_code, 8, none), (1, 1)), ((6, 147), (6, 146), (0, 44), (1, 9))),
  (((⟨"EventStructuresModel", "nameOf", "(LEventStructuresModel$Structure;I)I"⟩, prog_10_method_39_code, 6, some (.int)), (0, 2)), ((6, 151), (6, 150), (0, 0), (1, 9))),
  (((⟨"EventStructuresModel", "follows", "(II)Z"⟩, prog_10_method_41_code, 6, some (.boolean)), (1, 2)), ((6, 155), (6, 154), (0, 45), (1, 9))),
  (((⟨"EventStructuresModel", "separationRound", "(I)I"⟩, prog_10_method_44_code, 2, some (.int)), (1, 1)), ((6, 160), (6, 158), (6, 159), (1, 9))),
  (((⟨"EventStructuresModel", "equivalenceClasses", "(I)I"⟩, prog_10_method_45_code, 2, some (.int)), (1, 1)), ((6, 164), (6, 162), (6, 163), (1, 9))),
  (((⟨"EventStructuresModel", "wordDifferenceLength", "()I"⟩, prog_10_method_49_code, 1, some (.int)), (1, 0)), ((6, 168), (6, 166), (6, 167), (1, 9))),
  (((⟨"EventStructuresModel", "differ", "()I"⟩, prog_10_method_48_code, 8, some (.int)), (1, 0)), ((6, 172), (6, 171), (0, 46), (1, 9))),
  (((⟨"EventStructuresModel", "begin", "(ZZ)V"⟩, prog_10_method_46_code, 4, none), (1, 2)), ((6, 176), (6, 175), (0, 47), (1, 9))),
  (((⟨"EventStructuresModel$Layer", "clear", "()V"⟩, prog_11_method_2_code, 1, none), (1, 0)), ((6, 180), (6, 178), (6, 179), (1, 11))),
  (((⟨"EventStructuresModel$Layer", "add", "([JLEventStructuresModel$Layer;IIII)V"⟩, prog_11_method_4_code, 10, none), (1, 6)), ((6, 184), (6, 182), (6, 183), (1, 11))),
  (((⟨"EventStructuresModel$Layer", "ensure", "()V"⟩, prog_11_method_3_code, 4, none), (1, 0)), ((6, 188), (6, 186), (6, 187), (1, 11))),
  (((⟨"EventStructuresModel", "go", "(LEventStructuresModel$Layer;II)I"⟩, prog_10_method_47_code, 10, some (.int)), (1, 3)), ((6, 193), (6, 192), (0, 48), (1, 9))),
  (((⟨"EventStructuresModel", "wordDifferenceLabel", "(I)I"⟩, prog_10_method_50_code, 2, some (.int)), (1, 1)), ((6, 197), (6, 195), (6, 196), (1, 9))),
  (((⟨"EventStructuresModel", "wordCount", "(I)I"⟩, prog_10_method_51_code, 8, some (.int)), (1, 1)), ((6, 201), (6, 199), (6, 200), (1, 9))),
  (((⟨"EventStructuresModel", "refine", "(IIIIZ)I"⟩, prog_10_method_52_code, 12, some (.int)), (1, 5)), ((6, 205), (6, 203), (6, 204), (1, 9))),
  (((⟨"EventStructuresModel", "clearNet", "()I"⟩, prog_10_method_53_code, 2, some (.int)), (1, 0)), ((6, 209), (6, 207), (6, 208), (1, 9))),
  (((⟨"EventStructuresModel", "addPlace", "(Z)I"⟩, prog_10_method_54_code, 2, some (.int)), (1, 1)), ((6, 213), (6, 211), (6, 212), (1, 9))),
  (((⟨"EventStructuresModel", "addTransition", "(III)I"⟩, prog_10_method_55_code, 5, some (.int)), (1, 3)), ((6, 217), (6, 215), (6, 216), (1, 9))),
  (((⟨"EventStructuresModel", "unfold", "(I)I"⟩, prog_10_method_61_code, 4, some (.int)), (1, 1)), ((6, 221), (6, 219), (6, 220), (1, 9))),
  (((⟨"EventStructuresModel", "addConditions", "(II)V"⟩, prog_10_method_56_code, 4, none), (1, 2)), ((6, 225), (6, 224), (0, 49), (1, 9))),
  (((⟨"EventStructuresModel", "findRow", "(III)Z"⟩, prog_10_method_59_code, 5, some (.boolean)), (1, 3)), ((6, 229), (6, 228), (0, 50), (1, 9))),
  (((⟨"EventStructuresModel", "isCreated", "(I)Z"⟩, prog_10_method_58_code, 6, some (.boolean)), (1, 1)), ((6, 233), (6, 232), (0, 51), (1, 9))),
  (((⟨"EventStructuresModel", "canHold", "(I)Z"⟩, prog_10_method_57_code, 7, some (.boolean)), (1, 1)), ((6, 237), (6, 236), (0, 52), (1, 9))),
  (((⟨"EventStructuresModel", "create", "(I)V"⟩, prog_10_method_60_code, 7, none), (1, 1)), ((7, 1), (7, 0), (0, 53), (1, 9))),
  (((⟨"EventStructuresModel", "conditionCount", "()I"⟩, prog_10_method_62_code, 1, some (.int)), (1, 0)), ((7, 5), (7, 3), (7, 4), (1, 9))),
  (((⟨"EventStructuresModel", "append", "(I)I"⟩, prog_10_method_63_code, 2, some (.int)), (1, 1)), ((7, 9), (7, 7), (7, 8), (1, 9))),
  (((⟨"EventStructuresModel", "parse", "(I)I"⟩, prog_10_method_70_code, 4, some (.int)), (1, 1)), ((7, 13), (7, 11), (7, 12), (1, 9))),
  (((⟨"EventStructuresModel", "choice", "()LEventStructuresModel$Structure;"⟩, prog_10_method_66_code, 3, some (.object "EventStructuresModel$Structure")), (1, 0)), ((7, 17), (7, 16), (0, 54), (1, 9))),
  (((⟨"EventStructuresModel", "parallel", "()LEventStructuresModel$Structure;"⟩, prog_10_method_67_code, 3, some (.object "EventStructuresModel$Structure")), (1, 0)), ((7, 21), (7, 20), (0, 55), (1, 9))),
  (((⟨"EventStructuresModel", "sequence", "()LEventStructuresModel$Structure;"⟩, prog_10_method_68_code, 3, some (.object "EventStructuresModel$Structure")), (1, 0)), ((7, 25), (7, 24), (0, 56), (1, 9))),
  (((⟨"EventStructuresModel", "atom", "()LEventStructuresModel$Structure;"⟩, prog_10_method_69_code, 2, some (.object "EventStructuresModel$Structure")), (1, 0)), ((7, 29), (7, 28), (0, 57), (1, 9))),
  (((⟨"EventStructuresModel", "takes", "(I)Z"⟩, prog_10_method_64_code, 2, some (.boolean)), (1, 1)), ((7, 33), (7, 32), (0, 58), (1, 9))),
  (((⟨"EventStructuresModel", "together", "(LEventStructuresModel$Structure;LEventStructuresModel$Structure;I)LEventStructuresModel$Structure;"⟩, prog_10_method_65_code, 13, some (.object "EventStructuresModel$Structure")), (1, 3)), ((7, 37), (7, 36), (0, 59), (1, 9))),
  (((⟨"EventStructuresModel", "save", "()I"⟩, prog_10_method_73_code, 1, some (.int)), (1, 0)), ((7, 41), (7, 39), (7, 40), (1, 9))),
  (((⟨"EventStructuresModel", "carry", "([LEventStructuresModel$Structure;[LEventStructuresModel$Structure;)V"⟩, prog_10_method_71_code, 3, none), (0, 2)), ((7, 44), (7, 43), (0, 0), (1, 9))),
  (((⟨"EventStructuresModel", "bothEvents", "()I"⟩, prog_10_method_72_code, 1, some (.int)), (1, 0)), ((7, 48), (7, 47), (0, 60), (1, 9))),
  (((⟨"EventStructuresModel", "restore", "()I"⟩, prog_10_method_74_code, 1, some (.int)), (1, 0)), ((7, 52), (7, 50), (7, 51), (1, 9)))]
def MTB : List (ME × MP) := MTB_0 ++ (MTB_1 ++ (MTB_2 ++ (MTB_3 ++ (MTB_4 ++ (MTB_5)))))
def mokW (e : ME × MP) : Prop :=
  (tch e.2.1.1)[e.2.1.2]? = some (Cond.code e.1.1.1 e.1.1.2.1 e.1.1.2.2.1 e.1.1.2.2.2)
def mokB (e : ME × MP) : Bool :=
  decide ((tch e.2.2.1.1)[e.2.2.1.2]? = some (if e.1.2.1 = 0 then Cond.static e.1.1.1 else Cond.instanceMethod e.1.1.1)) &&
  (decide (e.1.2.1 ≠ 1) || decide ((tch e.2.2.2.1.1)[e.2.2.2.1.2]? = some (Cond.selects e.1.1.1.cls e.1.1.1 e.1.1.1))) &&
  decide ((tch e.2.2.2.2.1)[e.2.2.2.2.2]? = some (Cond.initialized e.1.1.1.cls)) &&
  (decide (e.1.2.1 ≠ 2) || (decide (e.1.1.1.name = "<init>") && decide (e.1.1.2.2.2 = none))) &&
  decide (e.1.1.1.cls ≠ "java/lang/invoke/MethodHandle") && decide (e.1.1.1.cls ≠ "java/lang/invoke/VarHandle") &&
  decide ((parseMethodDescriptor e.1.1.1.desc).map (fun d => d.parameters.length) = some e.1.2.2)
theorem MTB_0_B : ∀ e ∈ MTB_0, mokB e = true := List.all_eq_true.mp (by decide +kernel)
theorem MTB_0_W : ∀ e ∈ MTB_0, mokW e := by
  unfold MTB_0
  repeat (first | exact (fun _ h => absurd h List.not_mem_nil) | refine List.forall_mem_cons.mpr ⟨Eq.refl _, ?_⟩)
theorem MTB_1_B : ∀ e ∈ MTB_1, mokB e = true := List.all_eq_true.mp (by decide +kernel)
theorem MTB_1_W : ∀ e ∈ MTB_1, mokW e := by
  unfold MTB_1
  repeat (first | exact (fun _ h => absurd h List.not_mem_nil) | refine List.forall_mem_cons.mpr ⟨Eq.refl _, ?_⟩)
theorem MTB_2_B : ∀ e ∈ MTB_2, mokB e = true := List.all_eq_true.mp (by decide +kernel)
theorem MTB_2_W : ∀ e ∈ MTB_2, mokW e := by
  unfold MTB_2
  repeat (first | exact (fun _ h => absurd h List.not_mem_nil) | refine List.forall_mem_cons.mpr ⟨Eq.refl _, ?_⟩)
theorem MTB_3_B : ∀ e ∈ MTB_3, mokB e = true := List.all_eq_true.mp (by decide +kernel)
theorem MTB_3_W : ∀ e ∈ MTB_3, mokW e := by
  unfold MTB_3
  repeat (first | exact (fun _ h => absurd h List.not_mem_nil) | refine List.forall_mem_cons.mpr ⟨Eq.refl _, ?_⟩)
theorem MTB_4_B : ∀ e ∈ MTB_4, mokB e = true := List.all_eq_true.mp (by decide +kernel)
theorem MTB_4_W : ∀ e ∈ MTB_4, mokW e := by
  unfold MTB_4
  repeat (first | exact (fun _ h => absurd h List.not_mem_nil) | refine List.forall_mem_cons.mpr ⟨Eq.refl _, ?_⟩)
theorem MTB_5_B : ∀ e ∈ MTB_5, mokB e = true := List.all_eq_true.mp (by decide +kernel)
theorem MTB_5_W : ∀ e ∈ MTB_5, mokW e := by
  unfold MTB_5
  repeat (first | exact (fun _ h => absurd h List.not_mem_nil) | refine List.forall_mem_cons.mpr ⟨Eq.refl _, ?_⟩)
theorem MTB_B : ∀ e ∈ MTB, mokB e = true := by
  unfold MTB
  exact List.forall_mem_append.mpr ⟨MTB_0_B, List.forall_mem_append.mpr ⟨MTB_1_B, List.forall_mem_append.mpr ⟨MTB_2_B, List.forall_mem_append.mpr ⟨MTB_3_B, List.forall_mem_append.mpr ⟨MTB_4_B, MTB_5_B⟩⟩⟩⟩⟩
theorem MTB_W : ∀ e ∈ MTB, mokW e := by
  unfold MTB
  exact List.forall_mem_append.mpr ⟨MTB_0_W, List.forall_mem_append.mpr ⟨MTB_1_W, List.forall_mem_append.mpr ⟨MTB_2_W, List.forall_mem_append.mpr ⟨MTB_3_W, List.forall_mem_append.mpr ⟨MTB_4_W, MTB_5_W⟩⟩⟩⟩⟩
/-- of each class: (index, class, field, table, place); table 99: among the nest words -/
def FLT : Nat → List (Nat × Nat × Nat × Nat × Nat) := fun k => match k with
  | 0 => [(11, 0, 0, 1, 130), (17, 0, 1, 1, 131), (21, 0, 2, 1, 132), (24, 0, 3, 1, 133), (27, 0, 4, 1, 134), (30, 0, 5, 1, 135), (34, 0, 6, 1, 136), (37, 0, 7, 1, 137), (40, 0, 8, 1, 138), (43, 0, 9, 1, 139), (46, 0, 10, 1, 140), (49, 0, 11, 1, 141), (52, 0, 12, 1, 142), (59, 3, 0, 1, 89), (63, 4, 7, 1, 63), (77, 4, 5, 1, 54), (83, 4, 0, 1, 33), (96, 3, 3, 1, 95), (112, 3, 4, 1, 98)]
  | 1 => [(12, 1, 0, 2, 65), (18, 1, 1, 2, 67), (22, 1, 2, 2, 68), (26, 1, 3, 2, 69), (29, 1, 4, 2, 70), (32, 1, 5, 2, 71), (35, 1, 6, 2, 72), (66, 4, 5, 1, 57), (77, 4, 3, 1, 49), (84, 4, 0, 1, 36), (87, 4, 1, 1, 38), (90, 4, 2, 1, 43)]
  | 2 => [(9, 2, 0, 1, 237), (15, 2, 1, 1, 239), (18, 2, 2, 2, 1), (21, 2, 3, 2, 3), (25, 2, 4, 2, 5), (28, 2, 5, 2, 7)]
  | 3 => [(9, 3, 1, 1, 90), (15, 3, 2, 1, 92), (18, 3, 3, 1, 94), (22, 3, 4, 1, 96), (25, 3, 5, 1, 100), (28, 3, 6, 1, 101), (32, 3, 7, 1, 102), (36, 3, 0, 1, 87), (40, 4, 7, 1, 61), (43, 4, 5, 1, 52), (64, 4, 3, 1, 46), (86, 4, 1, 1, 39), (105, 4, 2, 1, 44)]
  | 4 => [(9, 4, 0, 1, 32), (15, 4, 1, 1, 37), (18, 4, 2, 1, 40), (21, 4, 3, 1, 45), (24, 4, 4, 1, 50), (27, 4, 5, 1, 51), (31, 4, 6, 1, 58), (34, 4, 7, 1, 60)]
  | 5 => [(12, 5, 0, 2, 30), (18, 5, 1, 2, 32), (22, 5, 2, 2, 34), (26, 5, 3, 2, 35), (29, 5, 4, 2, 36), (32, 5, 5, 2, 37), (36, 5, 6, 2, 38), (39, 5, 7, 2, 39), (46, 2, 1, 2, 0), (67, 2, 2, 2, 2), (70, 2, 3, 2, 4), (85, 4, 5, 1, 56), (99, 2, 5, 2, 8), (106, 4, 2, 1, 42), (109, 4, 3, 1, 48), (112, 2, 4, 2, 6)]
  | 6 => [(11, 6, 0, 1, 179), (19, 6, 1, 1, 180), (22, 6, 2, 1, 181), (26, 6, 3, 1, 182), (29, 6, 4, 1, 183), (32, 6, 5, 1, 184), (36, 6, 6, 1, 185), (40, 6, 7, 1, 186), (43, 6, 8, 1, 187), (46, 6, 9, 1, 188), (49, 6, 10, 1, 189), (52, 6, 11, 1, 190), (55, 6, 12, 1, 191), (58, 6, 13, 1, 192), (61, 6, 14, 1, 193), (64, 6, 15, 1, 194), (67, 6, 16, 1, 195), (70, 3, 0, 1, 88), (74, 4, 7, 1, 62), (100, 4, 5, 1, 55), (103, 4, 0, 1, 34), (106, 3, 4, 1, 97)]
  | 7 => [(17, 3, 0, 1, 86), (21, 7, 0, 2, 88), (24, 7, 1, 2, 89), (27, 7, 2, 2, 90), (30, 7, 3, 2, 91), (33, 7, 4, 2, 92), (36, 7, 5, 2, 93), (40, 7, 6, 2, 94), (48, 7, 7, 2, 95), (55, 7, 8, 2, 96), (62, 7, 9, 2, 97), (66, 7, 10, 2, 98), (72, 7, 11, 2, 99), (79, 7, 12, 2, 100), (83, 7, 13, 2, 101), (87, 7, 14, 2, 102), (111, 4, 5, 1, 53), (122, 4, 2, 1, 41), (130, 4, 3, 1, 47), (142, 4, 0, 1, 35), (149, 3, 1, 1, 91), (152, 3, 2, 1, 93), (171, 3, 4, 1, 99), (195, 4, 6, 1, 59), (226, 2, 0, 1, 238), (245, 5, 0, 2, 31), (246, 5, 1, 2, 33), (258, 1, 0, 2, 66)]
  | 8 => [(9, 8, 0, 5, 21), (15, 8, 1, 5, 23), (19, 8, 2, 5, 25), (22, 8, 3, 5, 27)]
  | 9 => [(9, 9, 1, 4, 229), (15, 9, 2, 4, 231), (18, 9, 3, 4, 233), (21, 9, 4, 4, 235), (24, 9, 6, 4, 238), (27, 9, 0, 4, 227)]
  | 10 => [(12, 10, 0, 5, 38), (16, 10, 1, 5, 39), (19, 10, 3, 5, 41), (23, 10, 4, 5, 42), (26, 10, 5, 5, 43), (29, 10, 6, 5, 44), (32, 10, 7, 5, 45), (35, 10, 8, 5, 46), (38, 10, 9, 5, 47), (44, 10, 13, 5, 51), (48, 10, 14, 5, 52), (52, 10, 15, 5, 53), (55, 10, 19, 5, 57), (58, 10, 20, 5, 58), (61, 10, 21, 5, 59), (64, 10, 25, 5, 63), (67, 10, 26, 5, 64), (70, 10, 27, 5, 65), (73, 10, 28, 5, 66), (76, 10, 29, 5, 67), (79, 10, 32, 5, 70), (82, 10, 33, 5, 71), (85, 10, 34, 5, 72), (89, 10, 35, 5, 73), (92, 10, 37, 5, 75), (103, 9, 0, 99, 0), (118, 9, 5, 99, 5), (125, 9, 1, 99, 1), (128, 9, 2, 99, 2), (131, 9, 3, 99, 3), (134, 9, 4, 99, 4), (216, 10, 12, 5, 50), (219, 10, 11, 5, 49), (222, 10, 10, 5, 48), (244, 8, 0, 99, 6), (251, 8, 3, 99, 9), (258, 8, 1, 99, 7), (265, 8, 2, 99, 8), (268, 10, 16, 5, 54), (271, 10, 17, 5, 55), (274, 10, 18, 5, 56), (277, 10, 30, 5, 68), (280, 10, 36, 5, 74), (298, 10, 31, 5, 69), (301, 10, 38, 5, 76), (304, 10, 40, 5, 78), (307, 10, 39, 5, 77), (310, 10, 41, 5, 79), (338, 10, 22, 5, 60), (341, 10, 23, 5, 61), (344, 10, 24, 5, 62), (347, 10, 2, 5, 40)]
  | _ => []
def MLT : Nat → List (Nat × Nat × Nat × Nat) := fun k => match k with
  | 0 => [(55, 76, 3, 168), (68, 32, 3, 172), (71, 77, 3, 173), (74, 78, 3, 179), (86, 79, 3, 183), (92, 80, 3, 186), (100, 81, 3, 190), (104, 83, 3, 199), (108, 85, 3, 207), (115, 56, 3, 194), (121, 82, 3, 195), (124, 84, 3, 203)]
  | 1 => [(11, 1, 99, 15), (38, 129, 4, 151), (42, 130, 4, 154), (46, 25, 4, 161), (49, 132, 4, 162), (52, 136, 4, 181), (55, 137, 4, 185), (58, 11, 4, 180), (62, 138, 4, 189), (69, 133, 4, 166), (73, 134, 4, 170), (80, 135, 4, 174), (93, 34, 4, 178), (96, 19, 99, 20)]
  | 3 => [(46, 18, 2, 233), (50, 33, 2, 234), (53, 34, 2, 239), (57, 35, 3, 3), (60, 19, 99, 17), (67, 41, 3, 75), (68, 46, 3, 47), (71, 52, 3, 71), (74, 53, 3, 76), (77, 56, 3, 88), (82, 60, 3, 106), (89, 64, 3, 122), (95, 65, 3, 125), (99, 66, 3, 129)]
  | 4 => [(37, 12, 2, 150), (40, 16, 2, 166), (44, 19, 99, 16), (48, 27, 4, 205), (52, 25, 4, 49), (55, 105, 4, 50), (59, 106, 4, 55), (63, 11, 4, 54)]
  | 5 => [(11, 1, 99, 13), (43, 25, 4, 99), (51, 117, 4, 100), (55, 118, 4, 105), (59, 123, 4, 126), (63, 19, 99, 19), (73, 119, 4, 109), (77, 120, 4, 112), (81, 121, 4, 116), (88, 122, 4, 120), (92, 34, 4, 125), (96, 14, 4, 124), (102, 11, 4, 130)]
  | 6 => [(79, 91, 3, 231), (83, 102, 4, 38), (87, 92, 3, 237), (91, 79, 3, 235), (97, 32, 3, 236), (109, 19, 99, 18), (113, 93, 4, 0), (117, 94, 4, 5), (120, 96, 4, 13), (124, 95, 4, 9), (128, 97, 4, 18)]
  | 7 => [(13, 1, 99, 10), (14, 2, 1, 82), (45, 3, 1, 124), (54, 4, 1, 172), (61, 5, 99, 11), (71, 6, 99, 12), (78, 7, 99, 14), (91, 9, 2, 138), (95, 10, 2, 142), (100, 11, 2, 146), (104, 14, 2, 158), (107, 15, 2, 162), (114, 18, 2, 173), (118, 19, 2, 180), (126, 20, 2, 181), (133, 23, 2, 193), (136, 25, 2, 201), (139, 27, 2, 209), (145, 31, 2, 225), (155, 39, 3, 19), (159, 41, 3, 27), (162, 43, 3, 35), (165, 45, 3, 43), (168, 48, 3, 55), (174, 51, 3, 67), (177, 55, 3, 84), (180, 58, 3, 98), (184, 63, 3, 118), (188, 67, 3, 132), (192, 69, 3, 140), (198, 52, 3, 148), (201, 74, 3, 161), (204, 75, 3, 164), (207, 88, 3, 219), (210, 90, 3, 227), (213, 99, 4, 26), (216, 101, 4, 34), (219, 104, 4, 45), (223, 107, 4, 59), (229, 109, 4, 67), (230, 111, 4, 75), (234, 113, 4, 83), (237, 114, 4, 87), (241, 116, 4, 95), (247, 126, 4, 139), (250, 128, 4, 147), (253, 131, 4, 157), (257, 139, 4, 193), (261, 141, 4, 201), (264, 142, 4, 206), (267, 32, 2, 229), (270, 59, 3, 102)]
  | 8 => [(32, 210, 6, 185)]
  | 9 => [(37, 157, 5, 202), (41, 156, 6, 26), (45, 168, 6, 27), (48, 175, 6, 40), (52, 174, 6, 56), (56, 171, 6, 81), (59, 182, 6, 86), (62, 186, 6, 87)]
  | 10 => [(11, 145, 99, 21), (43, 146, 99, 22), (95, 149, 5, 172), (99, 148, 5, 169), (107, 174, 6, 36), (110, 150, 5, 175), (114, 151, 5, 179), (121, 153, 5, 187), (137, 154, 5, 191), (141, 156, 5, 198), (144, 159, 5, 210), (148, 163, 5, 226), (152, 168, 6, 9), (155, 157, 6, 17), (159, 171, 6, 22), (162, 173, 6, 32), (165, 178, 6, 52), (168, 181, 6, 65), (171, 182, 6, 69), (174, 184, 6, 77), (177, 185, 6, 82), (180, 56, 6, 95), (185, 189, 6, 100), (189, 192, 6, 112), (193, 66, 6, 115), (201, 193, 6, 116), (205, 186, 6, 148), (208, 201, 6, 149), (212, 200, 6, 144), (225, 202, 6, 152), (234, 199, 6, 140), (238, 208, 6, 177), (241, 209, 6, 181), (247, 207, 6, 173), (254, 211, 6, 190), (261, 206, 6, 169), (283, 221, 6, 230), (286, 220, 6, 226), (289, 222, 6, 234), (292, 219, 6, 222), (295, 223, 6, 238), (314, 228, 7, 18), (318, 231, 7, 30), (321, 232, 7, 34), (325, 229, 7, 22), (328, 230, 7, 26), (331, 227, 7, 14), (334, 234, 7, 42), (350, 235, 7, 45)]
  | 11 => [(9, 0, 1, 18), (12, 144, 4, 216), (13, 8, 2, 134), (17, 147, 5, 165), (18, 13, 2, 154), (22, 152, 5, 183), (23, 17, 2, 169), (26, 155, 5, 194), (27, 21, 2, 185), (30, 158, 5, 206), (31, 22, 2, 189), (34, 160, 5, 214), (35, 24, 2, 197), (39, 161, 5, 218), (40, 26, 2, 205), (43, 162, 5, 222), (44, 28, 2, 213), (47, 164, 5, 233), (48, 29, 2, 217), (51, 165, 5, 237), (52, 30, 2, 221), (55, 166, 6, 1), (56, 36, 3, 7), (59, 167, 6, 5), (60, 37, 3, 11), (63, 169, 6, 13), (64, 38, 3, 15), (67, 170, 6, 18), (68, 40, 3, 23), (71, 172, 6, 28), (72, 42, 3, 31), (75, 176, 6, 44), (76, 44, 3, 39), (79, 177, 6, 48), (80, 47, 3, 51), (83, 179, 6, 57), (84, 49, 3, 59), (87, 180, 6, 61), (88, 50, 3, 63), (91, 183, 6, 73), (92, 54, 3, 80), (95, 187, 6, 91), (96, 57, 3, 94), (99, 188, 6, 96), (100, 61, 3, 110), (103, 190, 6, 104), (104, 62, 3, 114), (107, 191, 6, 108), (108, 68, 3, 136), (111, 194, 6, 120), (112, 70, 3, 144), (115, 195, 6, 124), (116, 71, 3, 149), (119, 196, 6, 128), (120, 72, 3, 153), (123, 197, 6, 132), (124, 73, 3, 157), (127, 198, 6, 136), (128, 86, 3, 211), (131, 203, 6, 157), (132, 87, 3, 215), (135, 204, 6, 161), (136, 89, 3, 223), (140, 205, 6, 165), (141, 98, 4, 22), (144, 212, 6, 194), (145, 100, 4, 30), (148, 213, 6, 198), (149, 103, 4, 41), (153, 214, 6, 202), (154, 108, 4, 63), (157, 215, 6, 206), (158, 110, 4, 71), (162, 216, 6, 210), (163, 112, 4, 79), (166, 217, 6, 214), (167, 115, 4, 91), (170, 218, 6, 218), (171, 124, 4, 131), (174, 224, 7, 2), (175, 125, 4, 135), (178, 225, 7, 6), (179, 127, 4, 143), (182, 226, 7, 10), (183, 140, 4, 197), (186, 233, 7, 38), (187, 143, 4, 210), (190, 236, 7, 49)]
  | _ => []
def NWL : List Cond := [
  .fieldLinkNest "EventStructuresModel" 103 "EventStructuresModel$Structure" "events" "I" "EventStructuresModel",
  .fieldLinkNest "EventStructuresModel" 125 "EventStructuresModel$Structure" "labels" "[I" "EventStructuresModel",
  .fieldLinkNest "EventStructuresModel" 128 "EventStructuresModel$Structure" "durations" "[I" "EventStructuresModel",
  .fieldLinkNest "EventStructuresModel" 131 "EventStructuresModel$Structure" "causes" "[I" "EventStructuresModel",
  .fieldLinkNest "EventStructuresModel" 134 "EventStructuresModel$Structure" "conflicts" "[I" "EventStructuresModel",
  .fieldLinkNest "EventStructuresModel" 118 "EventStructuresModel$Structure" "current" "I" "EventStructuresModel",
  .fieldLinkNest "EventStructuresModel" 244 "EventStructuresModel$Layer" "fronts" "[J" "EventStructuresModel",
  .fieldLinkNest "EventStructuresModel" 258 "EventStructuresModel$Layer" "words" "[I" "EventStructuresModel",
  .fieldLinkNest "EventStructuresModel" 265 "EventStructuresModel$Layer" "counts" "[I" "EventStructuresModel",
  .fieldLinkNest "EventStructuresModel" 251 "EventStructuresModel$Layer" "many" "I" "EventStructuresModel",
  .methodLinkNest "EventStructures" 13 ⟨"EventStructures$Structure", "<init>", "()V"⟩ "EventStructures",
  .methodLinkNest "EventStructures" 61 ⟨"EventStructures$Net", "<init>", "()V"⟩ "EventStructures",
  .methodLinkNest "EventStructures" 71 ⟨"EventStructures$Unfolding", "<init>", "()V"⟩ "EventStructures",
  .methodLinkNest "EventStructures$Unfolding" 11 ⟨"EventStructures$Structure", "<init>", "()V"⟩ "EventStructures",
  .methodLinkNest "EventStructures" 78 ⟨"EventStructures$Language", "<init>", "()V"⟩ "EventStructures",
  .methodLinkNest "EventStructures$Language" 11 ⟨"EventStructures$Structure", "<init>", "()V"⟩ "EventStructures",
  .methodLinkNest "EventStructures$Structure" 44 ⟨"EventStructures", "contains", "(II)Z"⟩ "EventStructures",
  .methodLinkNest "EventStructures$Space" 60 ⟨"EventStructures", "contains", "(II)Z"⟩ "EventStructures",
  .methodLinkNest "EventStructures$Words" 109 ⟨"EventStructures", "contains", "(II)Z"⟩ "EventStructures",
  .methodLinkNest "EventStructures$Unfolding" 63 ⟨"EventStructures", "contains", "(II)Z"⟩ "EventStructures",
  .methodLinkNest "EventStructures$Language" 96 ⟨"EventStructures", "contains", "(II)Z"⟩ "EventStructures",
  .methodLinkNest "EventStructuresModel" 11 ⟨"EventStructuresModel$Structure", "<init>", "()V"⟩ "EventStructuresModel",
  .methodLinkNest "EventStructuresModel" 43 ⟨"EventStructuresModel$Layer", "<init>", "()V"⟩ "EventStructuresModel"]
def OLT : List (Nat × Nat × Nat × Nat) := [(7, 3, 1, 21), (4, 3, 1, 31), (3, 3, 1, 85), (0, 3, 1, 127), (6, 3, 1, 175), (2, 3, 1, 236), (5, 3, 2, 27), (1, 3, 2, 62), (10, 3, 4, 219), (9, 3, 4, 226), (8, 3, 5, 20)]
def SLT : List (Nat × Nat × Nat × Nat) := [(9, 31, 5, 230), (10, 228, 6, 156), (8, 26, 6, 189)]
def CIT : List (Nat × Nat × Int32 × Nat × Nat) := [(7, 99, 1000000000, 2, 145), (12, 265, 1431655765, 3, 91), (12, 266, 858993459, 3, 92), (12, 267, 252645135, 3, 93), (10, 113, 1000000000, 5, 178)]
def CLT : List (Nat × Nat × Int64 × Nat × Nat) := [(7, 273, 2147483647, 3, 135), (6, 132, -7046029254386353131, 4, 4), (10, 199, 2147483647, 6, 119)]
/-- class links: own, index, class, place of the link, place of instantiable -/
def KLT : List (Nat × Nat × Nat × (Nat × Nat) × (Nat × Nat)) := [(11, 7, 7, (1, 16), (1, 17)), (7, 9, 3, (1, 24), (1, 25)), (7, 11, 4, (1, 26), (1, 27)), (7, 43, 0, (1, 122), (1, 123)), (0, 9, 3, (1, 128), (1, 25)), (7, 52, 6, (1, 170), (1, 171)), (6, 9, 3, (1, 176), (1, 25)), (7, 59, 2, (1, 231), (1, 232)), (7, 69, 5, (2, 22), (2, 23)), (5, 9, 4, (2, 28), (1, 27)), (7, 76, 1, (2, 57), (2, 58)), (1, 9, 4, (2, 63), (1, 27)), (11, 10, 10, (4, 214), (4, 215)), (10, 9, 9, (4, 220), (4, 222)), (10, 41, 8, (5, 14), (5, 16))]
def wtIdx : Nat × Nat × Nat × Nat := (0, 80, 3, 177)
def mnIdx : Nat × Nat × Nat × Nat := (6, 17, 1, 177)
