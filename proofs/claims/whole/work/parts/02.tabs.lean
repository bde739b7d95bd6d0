-- ===== PART A: goes FIRST, ahead of the names: the tables' words, and 'selects' of the private methods out of them =====
/-- a private method of a class that the tables say can be made, by its rows of tables_1 -/
def lw_okq (q : MethodName × Nat) : Prop := (q.1.cls ≠ "java/lang/invoke/MethodHandle" ∧ q.1.cls ≠ "java/lang/invoke/VarHandle") ∧ Cond.instantiable q.1.cls q.2 ∈ tables_1 ∧ Cond.privateMethod q.1 ∈ tables_1 ∧ Cond.instanceMethod q.1 ∈ tables_1
theorem lw_p0 : lw_okq (⟨"TasterTable$Judge", "hearMeal", "(I)V"⟩, 9) := ⟨⟨by decide +kernel, by decide +kernel⟩, List.mem_of_getElem? (i := 243) (by decide +kernel), List.mem_of_getElem? (i := 444) (by decide +kernel), List.mem_of_getElem? (i := 445) (by decide +kernel)⟩
theorem lw_p1 : lw_okq (⟨"TasterTable$Judge", "caseOf", "(II)I"⟩, 9) := ⟨⟨by decide +kernel, by decide +kernel⟩, List.mem_of_getElem? (i := 243) (by decide +kernel), List.mem_of_getElem? (i := 459) (by decide +kernel), List.mem_of_getElem? (i := 460) (by decide +kernel)⟩
theorem lw_p2 : lw_okq (⟨"TasterTable$Judge", "fitTogether", "(II)Z"⟩, 9) := ⟨⟨by decide +kernel, by decide +kernel⟩, List.mem_of_getElem? (i := 243) (by decide +kernel), List.mem_of_getElem? (i := 466) (by decide +kernel), List.mem_of_getElem? (i := 467) (by decide +kernel)⟩
theorem lw_p3 : lw_okq (⟨"java/lang/Throwable", "fillInStackTrace", "(I)Ljava/lang/Throwable;"⟩, 6) := ⟨⟨by decide +kernel, by decide +kernel⟩, List.mem_of_getElem? (i := 539) (by decide +kernel), List.mem_of_getElem? (i := 537) (by decide +kernel), List.mem_of_getElem? (i := 538) (by decide +kernel)⟩
theorem lw_p4 : lw_okq (⟨"TasterTable$Reader", "scan", "()V"⟩, 11) := ⟨⟨by decide +kernel, by decide +kernel⟩, List.mem_of_getElem? (i := 131) (by decide +kernel), List.mem_of_getElem? (i := 579) (by decide +kernel), List.mem_of_getElem? (i := 580) (by decide +kernel)⟩
theorem lw_p5 : lw_okq (⟨"TasterTable$Reader", "isWord", "(Ljava/lang/String;)Z"⟩, 11) := ⟨⟨by decide +kernel, by decide +kernel⟩, List.mem_of_getElem? (i := 131) (by decide +kernel), List.mem_of_getElem? (i := 590) (by decide +kernel), List.mem_of_getElem? (i := 591) (by decide +kernel)⟩
theorem lw_p6 : lw_okq (⟨"TasterTable$Reader", "readDish", "(LTasterTable$Board;)V"⟩, 11) := ⟨⟨by decide +kernel, by decide +kernel⟩, List.mem_of_getElem? (i := 131) (by decide +kernel), List.mem_of_getElem? (i := 642) (by decide +kernel), List.mem_of_getElem? (i := 643) (by decide +kernel)⟩
theorem lw_p7 : lw_okq (⟨"TasterTable$Reader", "fail", "(I)V"⟩, 11) := ⟨⟨by decide +kernel, by decide +kernel⟩, List.mem_of_getElem? (i := 131) (by decide +kernel), List.mem_of_getElem? (i := 646) (by decide +kernel), List.mem_of_getElem? (i := 647) (by decide +kernel)⟩
theorem lw_p8 : lw_okq (⟨"TasterTable$Reader", "number", "(II)I"⟩, 11) := ⟨⟨by decide +kernel, by decide +kernel⟩, List.mem_of_getElem? (i := 131) (by decide +kernel), List.mem_of_getElem? (i := 650) (by decide +kernel), List.mem_of_getElem? (i := 651) (by decide +kernel)⟩
theorem lw_p9 : lw_okq (⟨"TasterTable$Reader", "option", "(Ljava/lang/String;II)I"⟩, 11) := ⟨⟨by decide +kernel, by decide +kernel⟩, List.mem_of_getElem? (i := 131) (by decide +kernel), List.mem_of_getElem? (i := 655) (by decide +kernel), List.mem_of_getElem? (i := 656) (by decide +kernel)⟩
theorem lw_p10 : lw_okq (⟨"TasterTable$Reader", "endLine", "()V"⟩, 11) := ⟨⟨by decide +kernel, by decide +kernel⟩, List.mem_of_getElem? (i := 131) (by decide +kernel), List.mem_of_getElem? (i := 659) (by decide +kernel), List.mem_of_getElem? (i := 660) (by decide +kernel)⟩
theorem lw_p11 : lw_okq (⟨"TasterTable$Reader", "readPoison", "(LTasterTable$Board;)V"⟩, 11) := ⟨⟨by decide +kernel, by decide +kernel⟩, List.mem_of_getElem? (i := 131) (by decide +kernel), List.mem_of_getElem? (i := 664) (by decide +kernel), List.mem_of_getElem? (i := 665) (by decide +kernel)⟩
theorem lw_p12 : lw_okq (⟨"TasterTable$Reader", "readTaster", "(LTasterTable$Board;)V"⟩, 11) := ⟨⟨by decide +kernel, by decide +kernel⟩, List.mem_of_getElem? (i := 131) (by decide +kernel), List.mem_of_getElem? (i := 671) (by decide +kernel), List.mem_of_getElem? (i := 672) (by decide +kernel)⟩
theorem lw_p13 : lw_okq (⟨"TasterTable$Reader", "kindOfWord", "()I"⟩, 11) := ⟨⟨by decide +kernel, by decide +kernel⟩, List.mem_of_getElem? (i := 131) (by decide +kernel), List.mem_of_getElem? (i := 675) (by decide +kernel), List.mem_of_getElem? (i := 676) (by decide +kernel)⟩
theorem lw_p14 : lw_okq (⟨"TasterTable$Reader", "readHad", "(LTasterTable$Board;)V"⟩, 11) := ⟨⟨by decide +kernel, by decide +kernel⟩, List.mem_of_getElem? (i := 131) (by decide +kernel), List.mem_of_getElem? (i := 686) (by decide +kernel), List.mem_of_getElem? (i := 687) (by decide +kernel)⟩
theorem lw_p15 : lw_okq (⟨"TasterTable$Reader", "toldNumber", "(II)I"⟩, 11) := ⟨⟨by decide +kernel, by decide +kernel⟩, List.mem_of_getElem? (i := 131) (by decide +kernel), List.mem_of_getElem? (i := 690) (by decide +kernel), List.mem_of_getElem? (i := 691) (by decide +kernel)⟩
def lw_privs_1 : List (MethodName × Nat) := [(⟨"TasterTable$Judge", "hearMeal", "(I)V"⟩, 9), (⟨"TasterTable$Judge", "caseOf", "(II)I"⟩, 9), (⟨"TasterTable$Judge", "fitTogether", "(II)Z"⟩, 9), (⟨"java/lang/Throwable", "fillInStackTrace", "(I)Ljava/lang/Throwable;"⟩, 6), (⟨"TasterTable$Reader", "scan", "()V"⟩, 11), (⟨"TasterTable$Reader", "isWord", "(Ljava/lang/String;)Z"⟩, 11), (⟨"TasterTable$Reader", "readDish", "(LTasterTable$Board;)V"⟩, 11), (⟨"TasterTable$Reader", "fail", "(I)V"⟩, 11), (⟨"TasterTable$Reader", "number", "(II)I"⟩, 11), (⟨"TasterTable$Reader", "option", "(Ljava/lang/String;II)I"⟩, 11), (⟨"TasterTable$Reader", "endLine", "()V"⟩, 11), (⟨"TasterTable$Reader", "readPoison", "(LTasterTable$Board;)V"⟩, 11), (⟨"TasterTable$Reader", "readTaster", "(LTasterTable$Board;)V"⟩, 11), (⟨"TasterTable$Reader", "kindOfWord", "()I"⟩, 11), (⟨"TasterTable$Reader", "readHad", "(LTasterTable$Board;)V"⟩, 11), (⟨"TasterTable$Reader", "toldNumber", "(II)I"⟩, 11)]
theorem lw_r1 : ∀ q ∈ lw_privs_1, lw_okq q := List.forall_mem_cons.mpr ⟨lw_p0, List.forall_mem_cons.mpr ⟨lw_p1, List.forall_mem_cons.mpr ⟨lw_p2, List.forall_mem_cons.mpr ⟨lw_p3, List.forall_mem_cons.mpr ⟨lw_p4, List.forall_mem_cons.mpr ⟨lw_p5, List.forall_mem_cons.mpr ⟨lw_p6, List.forall_mem_cons.mpr ⟨lw_p7, List.forall_mem_cons.mpr ⟨lw_p8, List.forall_mem_cons.mpr ⟨lw_p9, List.forall_mem_cons.mpr ⟨lw_p10, List.forall_mem_cons.mpr ⟨lw_p11, List.forall_mem_cons.mpr ⟨lw_p12, List.forall_mem_cons.mpr ⟨lw_p13, List.forall_mem_cons.mpr ⟨lw_p14, List.forall_mem_cons.mpr ⟨lw_p15, fun _ h => absurd h List.not_mem_nil⟩⟩⟩⟩⟩⟩⟩⟩⟩⟩⟩⟩⟩⟩⟩⟩
theorem lw_p16 : lw_okq (⟨"TasterTable$Reader", "readClean", "(LTasterTable$Board;)V"⟩, 11) := ⟨⟨by decide +kernel, by decide +kernel⟩, List.mem_of_getElem? (i := 131) (by decide +kernel), List.mem_of_getElem? (i := 696) (by decide +kernel), List.mem_of_getElem? (i := 697) (by decide +kernel)⟩
theorem lw_p17 : lw_okq (⟨"TasterTable", "takeDraft", "()V"⟩, 15) := ⟨⟨by decide +kernel, by decide +kernel⟩, List.mem_of_getElem? (i := 24) (by decide +kernel), List.mem_of_getElem? (i := 700) (by decide +kernel), List.mem_of_getElem? (i := 701) (by decide +kernel)⟩
theorem lw_p18 : lw_okq (⟨"TasterTable", "needDish", "(I)V"⟩, 15) := ⟨⟨by decide +kernel, by decide +kernel⟩, List.mem_of_getElem? (i := 24) (by decide +kernel), List.mem_of_getElem? (i := 747) (by decide +kernel), List.mem_of_getElem? (i := 748) (by decide +kernel)⟩
theorem lw_p19 : lw_okq (⟨"TasterTable", "needPoison", "(I)V"⟩, 15) := ⟨⟨by decide +kernel, by decide +kernel⟩, List.mem_of_getElem? (i := 24) (by decide +kernel), List.mem_of_getElem? (i := 760) (by decide +kernel), List.mem_of_getElem? (i := 761) (by decide +kernel)⟩
theorem lw_p20 : lw_okq (⟨"TasterTable", "needTaster", "(I)V"⟩, 15) := ⟨⟨by decide +kernel, by decide +kernel⟩, List.mem_of_getElem? (i := 24) (by decide +kernel), List.mem_of_getElem? (i := 773) (by decide +kernel), List.mem_of_getElem? (i := 774) (by decide +kernel)⟩
theorem lw_p21 : lw_okq (⟨"TasterTable$Planner", "freeTasters", "(I)I"⟩, 9) := ⟨⟨by decide +kernel, by decide +kernel⟩, List.mem_of_getElem? (i := 174) (by decide +kernel), List.mem_of_getElem? (i := 807) (by decide +kernel), List.mem_of_getElem? (i := 808) (by decide +kernel)⟩
theorem lw_p22 : lw_okq (⟨"TasterTable$Planner", "weighSets", "(II)V"⟩, 9) := ⟨⟨by decide +kernel, by decide +kernel⟩, List.mem_of_getElem? (i := 174) (by decide +kernel), List.mem_of_getElem? (i := 811) (by decide +kernel), List.mem_of_getElem? (i := 812) (by decide +kernel)⟩
theorem lw_p23 : lw_okq (⟨"TasterTable$Planner", "coldOfSet", "(II)I"⟩, 9) := ⟨⟨by decide +kernel, by decide +kernel⟩, List.mem_of_getElem? (i := 174) (by decide +kernel), List.mem_of_getElem? (i := 815) (by decide +kernel), List.mem_of_getElem? (i := 816) (by decide +kernel)⟩
theorem lw_p24 : lw_okq (⟨"TasterTable$Planner", "ticksToTell", "(III)I"⟩, 9) := ⟨⟨by decide +kernel, by decide +kernel⟩, List.mem_of_getElem? (i := 174) (by decide +kernel), List.mem_of_getElem? (i := 819) (by decide +kernel), List.mem_of_getElem? (i := 820) (by decide +kernel)⟩
theorem lw_p25 : lw_okq (⟨"TasterTable$Planner", "gatherLeanSets", "()V"⟩, 9) := ⟨⟨by decide +kernel, by decide +kernel⟩, List.mem_of_getElem? (i := 174) (by decide +kernel), List.mem_of_getElem? (i := 826) (by decide +kernel), List.mem_of_getElem? (i := 827) (by decide +kernel)⟩
theorem lw_p26 : lw_okq (⟨"TasterTable$Planner", "isLean", "(I)Z"⟩, 9) := ⟨⟨by decide +kernel, by decide +kernel⟩, List.mem_of_getElem? (i := 174) (by decide +kernel), List.mem_of_getElem? (i := 830) (by decide +kernel), List.mem_of_getElem? (i := 831) (by decide +kernel)⟩
theorem lw_p27 : lw_okq (⟨"TasterTable$Planner", "tryCompany", "(ILTasterTable$Plan;)V"⟩, 9) := ⟨⟨by decide +kernel, by decide +kernel⟩, List.mem_of_getElem? (i := 174) (by decide +kernel), List.mem_of_getElem? (i := 840) (by decide +kernel), List.mem_of_getElem? (i := 841) (by decide +kernel)⟩
theorem lw_p28 : lw_okq (⟨"TasterTable$Planner", "shortestTime", "()I"⟩, 9) := ⟨⟨by decide +kernel, by decide +kernel⟩, List.mem_of_getElem? (i := 174) (by decide +kernel), List.mem_of_getElem? (i := 844) (by decide +kernel), List.mem_of_getElem? (i := 845) (by decide +kernel)⟩
theorem lw_p29 : lw_okq (⟨"TasterTable$Planner", "timeOf", "(I)I"⟩, 9) := ⟨⟨by decide +kernel, by decide +kernel⟩, List.mem_of_getElem? (i := 174) (by decide +kernel), List.mem_of_getElem? (i := 848) (by decide +kernel), List.mem_of_getElem? (i := 849) (by decide +kernel)⟩
theorem lw_p30 : lw_okq (⟨"TasterTable$Planner", "chooseSameSet", "(II)Z"⟩, 9) := ⟨⟨by decide +kernel, by decide +kernel⟩, List.mem_of_getElem? (i := 174) (by decide +kernel), List.mem_of_getElem? (i := 852) (by decide +kernel), List.mem_of_getElem? (i := 853) (by decide +kernel)⟩
theorem lw_p31 : lw_okq (⟨"TasterTable$Planner", "capsAllow", "(I)Z"⟩, 9) := ⟨⟨by decide +kernel, by decide +kernel⟩, List.mem_of_getElem? (i := 174) (by decide +kernel), List.mem_of_getElem? (i := 857) (by decide +kernel), List.mem_of_getElem? (i := 858) (by decide +kernel)⟩
def lw_privs_2 : List (MethodName × Nat) := [(⟨"TasterTable$Reader", "readClean", "(LTasterTable$Board;)V"⟩, 11), (⟨"TasterTable", "takeDraft", "()V"⟩, 15), (⟨"TasterTable", "needDish", "(I)V"⟩, 15), (⟨"TasterTable", "needPoison", "(I)V"⟩, 15), (⟨"TasterTable", "needTaster", "(I)V"⟩, 15), (⟨"TasterTable$Planner", "freeTasters", "(I)I"⟩, 9), (⟨"TasterTable$Planner", "weighSets", "(II)V"⟩, 9), (⟨"TasterTable$Planner", "coldOfSet", "(II)I"⟩, 9), (⟨"TasterTable$Planner", "ticksToTell", "(III)I"⟩, 9), (⟨"TasterTable$Planner", "gatherLeanSets", "()V"⟩, 9), (⟨"TasterTable$Planner", "isLean", "(I)Z"⟩, 9), (⟨"TasterTable$Planner", "tryCompany", "(ILTasterTable$Plan;)V"⟩, 9), (⟨"TasterTable$Planner", "shortestTime", "()I"⟩, 9), (⟨"TasterTable$Planner", "timeOf", "(I)I"⟩, 9), (⟨"TasterTable$Planner", "chooseSameSet", "(II)Z"⟩, 9), (⟨"TasterTable$Planner", "capsAllow", "(I)Z"⟩, 9)]
theorem lw_r2 : ∀ q ∈ lw_privs_2, lw_okq q := List.forall_mem_cons.mpr ⟨lw_p16, List.forall_mem_cons.mpr ⟨lw_p17, List.forall_mem_cons.mpr ⟨lw_p18, List.forall_mem_cons.mpr ⟨lw_p19, List.forall_mem_cons.mpr ⟨lw_p20, List.forall_mem_cons.mpr ⟨lw_p21, List.forall_mem_cons.mpr ⟨lw_p22, List.forall_mem_cons.mpr ⟨lw_p23, List.forall_mem_cons.mpr ⟨lw_p24, List.forall_mem_cons.mpr ⟨lw_p25, List.forall_mem_cons.mpr ⟨lw_p26, List.forall_mem_cons.mpr ⟨lw_p27, List.forall_mem_cons.mpr ⟨lw_p28, List.forall_mem_cons.mpr ⟨lw_p29, List.forall_mem_cons.mpr ⟨lw_p30, List.forall_mem_cons.mpr ⟨lw_p31, fun _ h => absurd h List.not_mem_nil⟩⟩⟩⟩⟩⟩⟩⟩⟩⟩⟩⟩⟩⟩⟩⟩
theorem lw_p32 : lw_okq (⟨"TasterTable$Planner", "startSearch", "(I)V"⟩, 9) := ⟨⟨by decide +kernel, by decide +kernel⟩, List.mem_of_getElem? (i := 174) (by decide +kernel), List.mem_of_getElem? (i := 861) (by decide +kernel), List.mem_of_getElem? (i := 862) (by decide +kernel)⟩
theorem lw_p33 : lw_okq (⟨"TasterTable$Planner", "leastCold", "(I)I"⟩, 9) := ⟨⟨by decide +kernel, by decide +kernel⟩, List.mem_of_getElem? (i := 174) (by decide +kernel), List.mem_of_getElem? (i := 865) (by decide +kernel), List.mem_of_getElem? (i := 866) (by decide +kernel)⟩
theorem lw_p34 : lw_okq (⟨"TasterTable$Planner", "notePlace", "(I)I"⟩, 9) := ⟨⟨by decide +kernel, by decide +kernel⟩, List.mem_of_getElem? (i := 174) (by decide +kernel), List.mem_of_getElem? (i := 869) (by decide +kernel), List.mem_of_getElem? (i := 870) (by decide +kernel)⟩
theorem lw_p35 : lw_okq (⟨"TasterTable$Planner", "openTasters", "()I"⟩, 9) := ⟨⟨by decide +kernel, by decide +kernel⟩, List.mem_of_getElem? (i := 174) (by decide +kernel), List.mem_of_getElem? (i := 875) (by decide +kernel), List.mem_of_getElem? (i := 876) (by decide +kernel)⟩
theorem lw_p36 : lw_okq (⟨"TasterTable$Planner", "coldWith", "(III)I"⟩, 9) := ⟨⟨by decide +kernel, by decide +kernel⟩, List.mem_of_getElem? (i := 174) (by decide +kernel), List.mem_of_getElem? (i := 879) (by decide +kernel), List.mem_of_getElem? (i := 880) (by decide +kernel)⟩
theorem lw_p37 : lw_okq (⟨"TasterTable$Planner", "changeCaps", "(II)V"⟩, 9) := ⟨⟨by decide +kernel, by decide +kernel⟩, List.mem_of_getElem? (i := 174) (by decide +kernel), List.mem_of_getElem? (i := 883) (by decide +kernel), List.mem_of_getElem? (i := 884) (by decide +kernel)⟩
theorem lw_p38 : lw_okq (⟨"TasterTable$Planner", "chooseRow", "()V"⟩, 9) := ⟨⟨by decide +kernel, by decide +kernel⟩, List.mem_of_getElem? (i := 174) (by decide +kernel), List.mem_of_getElem? (i := 887) (by decide +kernel), List.mem_of_getElem? (i := 888) (by decide +kernel)⟩
theorem lw_p39 : lw_okq (⟨"TasterTable$Planner", "rowIsBefore", "([I)Z"⟩, 9) := ⟨⟨by decide +kernel, by decide +kernel⟩, List.mem_of_getElem? (i := 174) (by decide +kernel), List.mem_of_getElem? (i := 891) (by decide +kernel), List.mem_of_getElem? (i := 892) (by decide +kernel)⟩
theorem lw_p40 : lw_okq (⟨"TasterTable$Log", "add", "(IIIZ)Z"⟩, 6) := ⟨⟨by decide +kernel, by decide +kernel⟩, List.mem_of_getElem? (i := 280) (by decide +kernel), List.mem_of_getElem? (i := 934) (by decide +kernel), List.mem_of_getElem? (i := 935) (by decide +kernel)⟩
theorem lw_p41 : lw_okq (⟨"TasterTable", "answerEvent", "(Z)I"⟩, 15) := ⟨⟨by decide +kernel, by decide +kernel⟩, List.mem_of_getElem? (i := 24) (by decide +kernel), List.mem_of_getElem? (i := 938) (by decide +kernel), List.mem_of_getElem? (i := 939) (by decide +kernel)⟩
theorem lw_p42 : lw_okq (⟨"TasterTable$Judge", "greatestGroup", "(IIZ)I"⟩, 9) := ⟨⟨by decide +kernel, by decide +kernel⟩, List.mem_of_getElem? (i := 243) (by decide +kernel), List.mem_of_getElem? (i := 998) (by decide +kernel), List.mem_of_getElem? (i := 999) (by decide +kernel)⟩
theorem lw_p43 : lw_okq (⟨"TasterTable$Judge", "trialTicks", "(IIIZ)I"⟩, 9) := ⟨⟨by decide +kernel, by decide +kernel⟩, List.mem_of_getElem? (i := 243) (by decide +kernel), List.mem_of_getElem? (i := 1002) (by decide +kernel), List.mem_of_getElem? (i := 1003) (by decide +kernel)⟩
theorem lw_p44 : lw_okq (⟨"TasterTable$Court", "draw", "(I)I"⟩, 10) := ⟨⟨by decide +kernel, by decide +kernel⟩, List.mem_of_getElem? (i := 316) (by decide +kernel), List.mem_of_getElem? (i := 1053) (by decide +kernel), List.mem_of_getElem? (i := 1054) (by decide +kernel)⟩
theorem lw_p45 : lw_okq (⟨"TasterTable$Court", "whoFall", "(LTasterTable$Board;LTasterTable$Plan;II)I"⟩, 10) := ⟨⟨by decide +kernel, by decide +kernel⟩, List.mem_of_getElem? (i := 316) (by decide +kernel), List.mem_of_getElem? (i := 1061) (by decide +kernel), List.mem_of_getElem? (i := 1062) (by decide +kernel)⟩
theorem lw_p46 : lw_okq (⟨"TasterTable$Court", "harden", "(II)V"⟩, 10) := ⟨⟨by decide +kernel, by decide +kernel⟩, List.mem_of_getElem? (i := 316) (by decide +kernel), List.mem_of_getElem? (i := 1068) (by decide +kernel), List.mem_of_getElem? (i := 1069) (by decide +kernel)⟩
theorem lw_p47 : lw_okq (⟨"TasterTableModel", "lays", "(I)V"⟩, 63) := ⟨⟨by decide +kernel, by decide +kernel⟩, List.mem_of_getElem? (i := 1090) (by decide +kernel), List.mem_of_getElem? (i := 1296) (by decide +kernel), List.mem_of_getElem? (i := 1297) (by decide +kernel)⟩
def lw_privs_3 : List (MethodName × Nat) := [(⟨"TasterTable$Planner", "startSearch", "(I)V"⟩, 9), (⟨"TasterTable$Planner", "leastCold", "(I)I"⟩, 9), (⟨"TasterTable$Planner", "notePlace", "(I)I"⟩, 9), (⟨"TasterTable$Planner", "openTasters", "()I"⟩, 9), (⟨"TasterTable$Planner", "coldWith", "(III)I"⟩, 9), (⟨"TasterTable$Planner", "changeCaps", "(II)V"⟩, 9), (⟨"TasterTable$Planner", "chooseRow", "()V"⟩, 9), (⟨"TasterTable$Planner", "rowIsBefore", "([I)Z"⟩, 9), (⟨"TasterTable$Log", "add", "(IIIZ)Z"⟩, 6), (⟨"TasterTable", "answerEvent", "(Z)I"⟩, 15), (⟨"TasterTable$Judge", "greatestGroup", "(IIZ)I"⟩, 9), (⟨"TasterTable$Judge", "trialTicks", "(IIIZ)I"⟩, 9), (⟨"TasterTable$Court", "draw", "(I)I"⟩, 10), (⟨"TasterTable$Court", "whoFall", "(LTasterTable$Board;LTasterTable$Plan;II)I"⟩, 10), (⟨"TasterTable$Court", "harden", "(II)V"⟩, 10), (⟨"TasterTableModel", "lays", "(I)V"⟩, 63)]
theorem lw_r3 : ∀ q ∈ lw_privs_3, lw_okq q := List.forall_mem_cons.mpr ⟨lw_p32, List.forall_mem_cons.mpr ⟨lw_p33, List.forall_mem_cons.mpr ⟨lw_p34, List.forall_mem_cons.mpr ⟨lw_p35, List.forall_mem_cons.mpr ⟨lw_p36, List.forall_mem_cons.mpr ⟨lw_p37, List.forall_mem_cons.mpr ⟨lw_p38, List.forall_mem_cons.mpr ⟨lw_p39, List.forall_mem_cons.mpr ⟨lw_p40, List.forall_mem_cons.mpr ⟨lw_p41, List.forall_mem_cons.mpr ⟨lw_p42, List.forall_mem_cons.mpr ⟨lw_p43, List.forall_mem_cons.mpr ⟨lw_p44, List.forall_mem_cons.mpr ⟨lw_p45, List.forall_mem_cons.mpr ⟨lw_p46, List.forall_mem_cons.mpr ⟨lw_p47, fun _ h => absurd h List.not_mem_nil⟩⟩⟩⟩⟩⟩⟩⟩⟩⟩⟩⟩⟩⟩⟩⟩
theorem lw_p48 : lw_okq (⟨"TasterTableModel", "right", "(ZI)Z"⟩, 63) := ⟨⟨by decide +kernel, by decide +kernel⟩, List.mem_of_getElem? (i := 1090) (by decide +kernel), List.mem_of_getElem? (i := 1304) (by decide +kernel), List.mem_of_getElem? (i := 1305) (by decide +kernel)⟩
theorem lw_p49 : lw_okq (⟨"TasterTableModel", "steps", "()V"⟩, 63) := ⟨⟨by decide +kernel, by decide +kernel⟩, List.mem_of_getElem? (i := 1090) (by decide +kernel), List.mem_of_getElem? (i := 1308) (by decide +kernel), List.mem_of_getElem? (i := 1309) (by decide +kernel)⟩
theorem lw_p50 : lw_okq (⟨"TasterTableModel", "byteAt", "(I)I"⟩, 63) := ⟨⟨by decide +kernel, by decide +kernel⟩, List.mem_of_getElem? (i := 1090) (by decide +kernel), List.mem_of_getElem? (i := 1312) (by decide +kernel), List.mem_of_getElem? (i := 1313) (by decide +kernel)⟩
theorem lw_p51 : lw_okq (⟨"TasterTableModel", "isGood", "()Z"⟩, 63) := ⟨⟨by decide +kernel, by decide +kernel⟩, List.mem_of_getElem? (i := 1090) (by decide +kernel), List.mem_of_getElem? (i := 1322) (by decide +kernel), List.mem_of_getElem? (i := 1323) (by decide +kernel)⟩
theorem lw_p52 : lw_okq (⟨"TasterTableModel", "line", "()V"⟩, 63) := ⟨⟨by decide +kernel, by decide +kernel⟩, List.mem_of_getElem? (i := 1090) (by decide +kernel), List.mem_of_getElem? (i := 1326) (by decide +kernel), List.mem_of_getElem? (i := 1327) (by decide +kernel)⟩
theorem lw_p53 : lw_okq (⟨"TasterTableModel", "is", "(I)Z"⟩, 63) := ⟨⟨by decide +kernel, by decide +kernel⟩, List.mem_of_getElem? (i := 1090) (by decide +kernel), List.mem_of_getElem? (i := 1330) (by decide +kernel), List.mem_of_getElem? (i := 1331) (by decide +kernel)⟩
theorem lw_p54 : lw_okq (⟨"TasterTableModel", "readsDish", "()V"⟩, 63) := ⟨⟨by decide +kernel, by decide +kernel⟩, List.mem_of_getElem? (i := 1090) (by decide +kernel), List.mem_of_getElem? (i := 1341) (by decide +kernel), List.mem_of_getElem? (i := 1342) (by decide +kernel)⟩
theorem lw_p55 : lw_okq (⟨"TasterTableModel", "wrong", "(I)V"⟩, 63) := ⟨⟨by decide +kernel, by decide +kernel⟩, List.mem_of_getElem? (i := 1090) (by decide +kernel), List.mem_of_getElem? (i := 1345) (by decide +kernel), List.mem_of_getElem? (i := 1346) (by decide +kernel)⟩
theorem lw_p56 : lw_okq (⟨"TasterTableModel", "number", "(II)I"⟩, 63) := ⟨⟨by decide +kernel, by decide +kernel⟩, List.mem_of_getElem? (i := 1090) (by decide +kernel), List.mem_of_getElem? (i := 1349) (by decide +kernel), List.mem_of_getElem? (i := 1350) (by decide +kernel)⟩
theorem lw_p57 : lw_okq (⟨"TasterTableModel", "perhaps", "(III)I"⟩, 63) := ⟨⟨by decide +kernel, by decide +kernel⟩, List.mem_of_getElem? (i := 1090) (by decide +kernel), List.mem_of_getElem? (i := 1353) (by decide +kernel), List.mem_of_getElem? (i := 1354) (by decide +kernel)⟩
theorem lw_p58 : lw_okq (⟨"TasterTableModel", "readsPoison", "()V"⟩, 63) := ⟨⟨by decide +kernel, by decide +kernel⟩, List.mem_of_getElem? (i := 1090) (by decide +kernel), List.mem_of_getElem? (i := 1357) (by decide +kernel), List.mem_of_getElem? (i := 1358) (by decide +kernel)⟩
theorem lw_p59 : lw_okq (⟨"TasterTableModel", "readsTaster", "()V"⟩, 63) := ⟨⟨by decide +kernel, by decide +kernel⟩, List.mem_of_getElem? (i := 1090) (by decide +kernel), List.mem_of_getElem? (i := 1361) (by decide +kernel), List.mem_of_getElem? (i := 1362) (by decide +kernel)⟩
theorem lw_p60 : lw_okq (⟨"TasterTableModel", "readsHad", "()V"⟩, 63) := ⟨⟨by decide +kernel, by decide +kernel⟩, List.mem_of_getElem? (i := 1090) (by decide +kernel), List.mem_of_getElem? (i := 1365) (by decide +kernel), List.mem_of_getElem? (i := 1366) (by decide +kernel)⟩
theorem lw_p61 : lw_okq (⟨"TasterTableModel", "amongHere", "(I)Z"⟩, 63) := ⟨⟨by decide +kernel, by decide +kernel⟩, List.mem_of_getElem? (i := 1090) (by decide +kernel), List.mem_of_getElem? (i := 1369) (by decide +kernel), List.mem_of_getElem? (i := 1370) (by decide +kernel)⟩
theorem lw_p62 : lw_okq (⟨"TasterTableModel", "need", "(Z)V"⟩, 63) := ⟨⟨by decide +kernel, by decide +kernel⟩, List.mem_of_getElem? (i := 1090) (by decide +kernel), List.mem_of_getElem? (i := 1373) (by decide +kernel), List.mem_of_getElem? (i := 1374) (by decide +kernel)⟩
theorem lw_p63 : lw_okq (⟨"TasterTableModel", "copies", "([I[I)V"⟩, 63) := ⟨⟨by decide +kernel, by decide +kernel⟩, List.mem_of_getElem? (i := 1090) (by decide +kernel), List.mem_of_getElem? (i := 1377) (by decide +kernel), List.mem_of_getElem? (i := 1378) (by decide +kernel)⟩
def lw_privs_4 : List (MethodName × Nat) := [(⟨"TasterTableModel", "right", "(ZI)Z"⟩, 63), (⟨"TasterTableModel", "steps", "()V"⟩, 63), (⟨"TasterTableModel", "byteAt", "(I)I"⟩, 63), (⟨"TasterTableModel", "isGood", "()Z"⟩, 63), (⟨"TasterTableModel", "line", "()V"⟩, 63), (⟨"TasterTableModel", "is", "(I)Z"⟩, 63), (⟨"TasterTableModel", "readsDish", "()V"⟩, 63), (⟨"TasterTableModel", "wrong", "(I)V"⟩, 63), (⟨"TasterTableModel", "number", "(II)I"⟩, 63), (⟨"TasterTableModel", "perhaps", "(III)I"⟩, 63), (⟨"TasterTableModel", "readsPoison", "()V"⟩, 63), (⟨"TasterTableModel", "readsTaster", "()V"⟩, 63), (⟨"TasterTableModel", "readsHad", "()V"⟩, 63), (⟨"TasterTableModel", "amongHere", "(I)Z"⟩, 63), (⟨"TasterTableModel", "need", "(Z)V"⟩, 63), (⟨"TasterTableModel", "copies", "([I[I)V"⟩, 63)]
theorem lw_r4 : ∀ q ∈ lw_privs_4, lw_okq q := List.forall_mem_cons.mpr ⟨lw_p48, List.forall_mem_cons.mpr ⟨lw_p49, List.forall_mem_cons.mpr ⟨lw_p50, List.forall_mem_cons.mpr ⟨lw_p51, List.forall_mem_cons.mpr ⟨lw_p52, List.forall_mem_cons.mpr ⟨lw_p53, List.forall_mem_cons.mpr ⟨lw_p54, List.forall_mem_cons.mpr ⟨lw_p55, List.forall_mem_cons.mpr ⟨lw_p56, List.forall_mem_cons.mpr ⟨lw_p57, List.forall_mem_cons.mpr ⟨lw_p58, List.forall_mem_cons.mpr ⟨lw_p59, List.forall_mem_cons.mpr ⟨lw_p60, List.forall_mem_cons.mpr ⟨lw_p61, List.forall_mem_cons.mpr ⟨lw_p62, List.forall_mem_cons.mpr ⟨lw_p63, fun _ h => absurd h List.not_mem_nil⟩⟩⟩⟩⟩⟩⟩⟩⟩⟩⟩⟩⟩⟩⟩⟩
theorem lw_p64 : lw_okq (⟨"TasterTableModel", "now", "()I"⟩, 63) := ⟨⟨by decide +kernel, by decide +kernel⟩, List.mem_of_getElem? (i := 1090) (by decide +kernel), List.mem_of_getElem? (i := 1392) (by decide +kernel), List.mem_of_getElem? (i := 1393) (by decide +kernel)⟩
theorem lw_p65 : lw_okq (⟨"TasterTableModel", "isDish", "(I)Z"⟩, 63) := ⟨⟨by decide +kernel, by decide +kernel⟩, List.mem_of_getElem? (i := 1090) (by decide +kernel), List.mem_of_getElem? (i := 1400) (by decide +kernel), List.mem_of_getElem? (i := 1401) (by decide +kernel)⟩
theorem lw_p66 : lw_okq (⟨"TasterTableModel", "isPoison", "(I)Z"⟩, 63) := ⟨⟨by decide +kernel, by decide +kernel⟩, List.mem_of_getElem? (i := 1090) (by decide +kernel), List.mem_of_getElem? (i := 1408) (by decide +kernel), List.mem_of_getElem? (i := 1409) (by decide +kernel)⟩
theorem lw_p67 : lw_okq (⟨"TasterTableModel", "isTaster", "(I)Z"⟩, 63) := ⟨⟨by decide +kernel, by decide +kernel⟩, List.mem_of_getElem? (i := 1090) (by decide +kernel), List.mem_of_getElem? (i := 1416) (by decide +kernel), List.mem_of_getElem? (i := 1417) (by decide +kernel)⟩
theorem lw_p68 : lw_okq (⟨"TasterTableModel", "fellAt", "(I)I"⟩, 63) := ⟨⟨by decide +kernel, by decide +kernel⟩, List.mem_of_getElem? (i := 1090) (by decide +kernel), List.mem_of_getElem? (i := 1420) (by decide +kernel), List.mem_of_getElem? (i := 1421) (by decide +kernel)⟩
theorem lw_p69 : lw_okq (⟨"TasterTableModel", "showsNow", "(IIZ)I"⟩, 63) := ⟨⟨by decide +kernel, by decide +kernel⟩, List.mem_of_getElem? (i := 1090) (by decide +kernel), List.mem_of_getElem? (i := 1428) (by decide +kernel), List.mem_of_getElem? (i := 1429) (by decide +kernel)⟩
theorem lw_p70 : lw_okq (⟨"TasterTableModel", "showsBy", "(IIZI)I"⟩, 63) := ⟨⟨by decide +kernel, by decide +kernel⟩, List.mem_of_getElem? (i := 1090) (by decide +kernel), List.mem_of_getElem? (i := 1432) (by decide +kernel), List.mem_of_getElem? (i := 1433) (by decide +kernel)⟩
theorem lw_p71 : lw_okq (⟨"TasterTableModel", "isLies", "(II)Z"⟩, 63) := ⟨⟨by decide +kernel, by decide +kernel⟩, List.mem_of_getElem? (i := 1090) (by decide +kernel), List.mem_of_getElem? (i := 1440) (by decide +kernel), List.mem_of_getElem? (i := 1441) (by decide +kernel)⟩
theorem lw_p72 : lw_okq (⟨"TasterTableModel", "plans", "(II)Z"⟩, 63) := ⟨⟨by decide +kernel, by decide +kernel⟩, List.mem_of_getElem? (i := 1090) (by decide +kernel), List.mem_of_getElem? (i := 1444) (by decide +kernel), List.mem_of_getElem? (i := 1445) (by decide +kernel)⟩
theorem lw_p73 : lw_okq (⟨"TasterTableModel", "colds", "()V"⟩, 63) := ⟨⟨by decide +kernel, by decide +kernel⟩, List.mem_of_getElem? (i := 1090) (by decide +kernel), List.mem_of_getElem? (i := 1448) (by decide +kernel), List.mem_of_getElem? (i := 1449) (by decide +kernel)⟩
theorem lw_p74 : lw_okq (⟨"TasterTableModel", "latest", "(II)I"⟩, 63) := ⟨⟨by decide +kernel, by decide +kernel⟩, List.mem_of_getElem? (i := 1090) (by decide +kernel), List.mem_of_getElem? (i := 1452) (by decide +kernel), List.mem_of_getElem? (i := 1453) (by decide +kernel)⟩
theorem lw_p75 : lw_okq (⟨"TasterTableModel", "fills", "(I)V"⟩, 63) := ⟨⟨by decide +kernel, by decide +kernel⟩, List.mem_of_getElem? (i := 1090) (by decide +kernel), List.mem_of_getElem? (i := 1460) (by decide +kernel), List.mem_of_getElem? (i := 1461) (by decide +kernel)⟩
theorem lw_p76 : lw_okq (⟨"TasterTableModel", "isUsed", "(III)Z"⟩, 63) := ⟨⟨by decide +kernel, by decide +kernel⟩, List.mem_of_getElem? (i := 1090) (by decide +kernel), List.mem_of_getElem? (i := 1464) (by decide +kernel), List.mem_of_getElem? (i := 1465) (by decide +kernel)⟩
theorem lw_p77 : lw_okq (⟨"TasterTableModel", "more", "(II)I"⟩, 63) := ⟨⟨by decide +kernel, by decide +kernel⟩, List.mem_of_getElem? (i := 1090) (by decide +kernel), List.mem_of_getElem? (i := 1468) (by decide +kernel), List.mem_of_getElem? (i := 1469) (by decide +kernel)⟩
theorem lw_p78 : lw_okq (⟨"TasterTableModel", "rows", "(I)V"⟩, 63) := ⟨⟨by decide +kernel, by decide +kernel⟩, List.mem_of_getElem? (i := 1090) (by decide +kernel), List.mem_of_getElem? (i := 1472) (by decide +kernel), List.mem_of_getElem? (i := 1473) (by decide +kernel)⟩
theorem lw_p79 : lw_okq (⟨"TasterTableModel", "isLess", "()Z"⟩, 63) := ⟨⟨by decide +kernel, by decide +kernel⟩, List.mem_of_getElem? (i := 1090) (by decide +kernel), List.mem_of_getElem? (i := 1476) (by decide +kernel), List.mem_of_getElem? (i := 1477) (by decide +kernel)⟩
def lw_privs_5 : List (MethodName × Nat) := [(⟨"TasterTableModel", "now", "()I"⟩, 63), (⟨"TasterTableModel", "isDish", "(I)Z"⟩, 63), (⟨"TasterTableModel", "isPoison", "(I)Z"⟩, 63), (⟨"TasterTableModel", "isTaster", "(I)Z"⟩, 63), (⟨"TasterTableModel", "fellAt", "(I)I"⟩, 63), (⟨"TasterTableModel", "showsNow", "(IIZ)I"⟩, 63), (⟨"TasterTableModel", "showsBy", "(IIZI)I"⟩, 63), (⟨"TasterTableModel", "isLies", "(II)Z"⟩, 63), (⟨"TasterTableModel", "plans", "(II)Z"⟩, 63), (⟨"TasterTableModel", "colds", "()V"⟩, 63), (⟨"TasterTableModel", "latest", "(II)I"⟩, 63), (⟨"TasterTableModel", "fills", "(I)V"⟩, 63), (⟨"TasterTableModel", "isUsed", "(III)Z"⟩, 63), (⟨"TasterTableModel", "more", "(II)I"⟩, 63), (⟨"TasterTableModel", "rows", "(I)V"⟩, 63), (⟨"TasterTableModel", "isLess", "()Z"⟩, 63)]
theorem lw_r5 : ∀ q ∈ lw_privs_5, lw_okq q := List.forall_mem_cons.mpr ⟨lw_p64, List.forall_mem_cons.mpr ⟨lw_p65, List.forall_mem_cons.mpr ⟨lw_p66, List.forall_mem_cons.mpr ⟨lw_p67, List.forall_mem_cons.mpr ⟨lw_p68, List.forall_mem_cons.mpr ⟨lw_p69, List.forall_mem_cons.mpr ⟨lw_p70, List.forall_mem_cons.mpr ⟨lw_p71, List.forall_mem_cons.mpr ⟨lw_p72, List.forall_mem_cons.mpr ⟨lw_p73, List.forall_mem_cons.mpr ⟨lw_p74, List.forall_mem_cons.mpr ⟨lw_p75, List.forall_mem_cons.mpr ⟨lw_p76, List.forall_mem_cons.mpr ⟨lw_p77, List.forall_mem_cons.mpr ⟨lw_p78, List.forall_mem_cons.mpr ⟨lw_p79, fun _ h => absurd h List.not_mem_nil⟩⟩⟩⟩⟩⟩⟩⟩⟩⟩⟩⟩⟩⟩⟩⟩
theorem lw_p80 : lw_okq (⟨"TasterTableModel", "tells", "(IIII)I"⟩, 63) := ⟨⟨by decide +kernel, by decide +kernel⟩, List.mem_of_getElem? (i := 1090) (by decide +kernel), List.mem_of_getElem? (i := 1496) (by decide +kernel), List.mem_of_getElem? (i := 1497) (by decide +kernel)⟩
theorem lw_p81 : lw_okq (⟨"TasterTableModel", "allCases", "()I"⟩, 63) := ⟨⟨by decide +kernel, by decide +kernel⟩, List.mem_of_getElem? (i := 1090) (by decide +kernel), List.mem_of_getElem? (i := 1512) (by decide +kernel), List.mem_of_getElem? (i := 1513) (by decide +kernel)⟩
theorem lw_p82 : lw_okq (⟨"TasterTableModel", "fits", "(III)Z"⟩, 63) := ⟨⟨by decide +kernel, by decide +kernel⟩, List.mem_of_getElem? (i := 1090) (by decide +kernel), List.mem_of_getElem? (i := 1516) (by decide +kernel), List.mem_of_getElem? (i := 1517) (by decide +kernel)⟩
theorem lw_p83 : lw_okq (⟨"TasterTableModel", "falls", "(II)I"⟩, 63) := ⟨⟨by decide +kernel, by decide +kernel⟩, List.mem_of_getElem? (i := 1090) (by decide +kernel), List.mem_of_getElem? (i := 1520) (by decide +kernel), List.mem_of_getElem? (i := 1521) (by decide +kernel)⟩
theorem lw_p84 : lw_okq (⟨"TasterTableModel", "weight", "(I)I"⟩, 63) := ⟨⟨by decide +kernel, by decide +kernel⟩, List.mem_of_getElem? (i := 1090) (by decide +kernel), List.mem_of_getElem? (i := 1528) (by decide +kernel), List.mem_of_getElem? (i := 1529) (by decide +kernel)⟩
theorem lw_p85 : lw_okq (⟨"TasterTableModel", "greatest", "(IIZ)I"⟩, 63) := ⟨⟨by decide +kernel, by decide +kernel⟩, List.mem_of_getElem? (i := 1090) (by decide +kernel), List.mem_of_getElem? (i := 1543) (by decide +kernel), List.mem_of_getElem? (i := 1544) (by decide +kernel)⟩
theorem lw_p86 : lw_okq (⟨"TasterTableModel", "choose", "(II)J"⟩, 63) := ⟨⟨by decide +kernel, by decide +kernel⟩, List.mem_of_getElem? (i := 1090) (by decide +kernel), List.mem_of_getElem? (i := 1555) (by decide +kernel), List.mem_of_getElem? (i := 1556) (by decide +kernel)⟩
theorem lw_p87 : lw_okq (⟨"TasterTableModel", "dayGoes", "()V"⟩, 63) := ⟨⟨by decide +kernel, by decide +kernel⟩, List.mem_of_getElem? (i := 1090) (by decide +kernel), List.mem_of_getElem? (i := 1567) (by decide +kernel), List.mem_of_getElem? (i := 1568) (by decide +kernel)⟩
theorem lw_p88 : lw_okq (⟨"TasterTableModel", "draw", "(I)I"⟩, 63) := ⟨⟨by decide +kernel, by decide +kernel⟩, List.mem_of_getElem? (i := 1090) (by decide +kernel), List.mem_of_getElem? (i := 1571) (by decide +kernel), List.mem_of_getElem? (i := 1572) (by decide +kernel)⟩
def lw_privs_6 : List (MethodName × Nat) := [(⟨"TasterTableModel", "tells", "(IIII)I"⟩, 63), (⟨"TasterTableModel", "allCases", "()I"⟩, 63), (⟨"TasterTableModel", "fits", "(III)Z"⟩, 63), (⟨"TasterTableModel", "falls", "(II)I"⟩, 63), (⟨"TasterTableModel", "weight", "(I)I"⟩, 63), (⟨"TasterTableModel", "greatest", "(IIZ)I"⟩, 63), (⟨"TasterTableModel", "choose", "(II)J"⟩, 63), (⟨"TasterTableModel", "dayGoes", "()V"⟩, 63), (⟨"TasterTableModel", "draw", "(I)I"⟩, 63)]
theorem lw_r6 : ∀ q ∈ lw_privs_6, lw_okq q := List.forall_mem_cons.mpr ⟨lw_p80, List.forall_mem_cons.mpr ⟨lw_p81, List.forall_mem_cons.mpr ⟨lw_p82, List.forall_mem_cons.mpr ⟨lw_p83, List.forall_mem_cons.mpr ⟨lw_p84, List.forall_mem_cons.mpr ⟨lw_p85, List.forall_mem_cons.mpr ⟨lw_p86, List.forall_mem_cons.mpr ⟨lw_p87, List.forall_mem_cons.mpr ⟨lw_p88, fun _ h => absurd h List.not_mem_nil⟩⟩⟩⟩⟩⟩⟩⟩⟩
def lw_privs : List (MethodName × Nat) := lw_privs_1 ++ (lw_privs_2 ++ (lw_privs_3 ++ (lw_privs_4 ++ (lw_privs_5 ++ (lw_privs_6)))))
def lw_tbl : List Cond := k2_sels lw_privs ++ tables_1
theorem lw_privs_ok : ∀ q ∈ lw_privs, lw_okq q := by
  show ∀ q ∈ lw_privs_1 ++ (lw_privs_2 ++ (lw_privs_3 ++ (lw_privs_4 ++ (lw_privs_5 ++ (lw_privs_6))))), lw_okq q
  exact List.forall_mem_append.mpr ⟨lw_r1, List.forall_mem_append.mpr ⟨lw_r2, List.forall_mem_append.mpr ⟨lw_r3, List.forall_mem_append.mpr ⟨lw_r4, List.forall_mem_append.mpr ⟨lw_r5, lw_r6⟩⟩⟩⟩⟩

-- classes
def RX0 : String := "TasterTable$Board"
def TX0 : u_T := fun k => match k with
  | 0 => ("TasterTable$Board", "dishes", "I", false)
  | 1 => ("TasterTable$Board", "ready", "[I", true)
  | 2 => ("TasterTable$Board", "served", "[I", true)
  | 3 => ("TasterTable$Board", "dishWeight", "[I", true)
  | 4 => ("TasterTable$Board", "poisons", "I", false)
  | 5 => ("TasterTable$Board", "delay", "[I", true)
  | 6 => ("TasterTable$Board", "needsWine", "[I", true)
  | 7 => ("TasterTable$Board", "hardens", "[I", true)
  | 8 => ("TasterTable$Board", "poisonWeight", "[I", true)
  | 9 => ("TasterTable$Board", "tasters", "I", false)
  | 10 => ("TasterTable$Board", "kind", "[I", true)
  | 11 => ("TasterTable$Board", "cap", "[I", true)
  | 12 => ("TasterTable$Board", "hadBefore", "[I", true)
  | _ => ("TasterTable$Board", "clean", "I", false)
def tyX0 : Nat → FieldType := fun k => match k with
  | 0 => .int
  | 1 => .array .int
  | 2 => .array .int
  | 3 => .array .int
  | 4 => .int
  | 5 => .array .int
  | 6 => .array .int
  | 7 => .array .int
  | 8 => .array .int
  | 9 => .int
  | 10 => .array .int
  | 11 => .array .int
  | 12 => .array .int
  | _ => .int
abbrev wsX00 : List Cond := u_ws RX0 TX0 14
theorem nmX0 : ∀ a, a < 14 → ∀ b, b < 14 → a ≠ b → (TX0 a).2.1 ≠ (TX0 b).2.1 := by decide +kernel
theorem tyX0_ok : ∀ k, k < 14 → parseFieldDescriptor (TX0 k).2.2.1 = some (tyX0 k) := by decide +kernel
def RX1 : String := "TasterTable$Court"
def TX1 : u_T := fun k => match k with
  | 0 => ("TasterTable$Court", "begun", "Z", false)
  | 1 => ("TasterTable$Court", "seed", "I", false)
  | 2 => ("TasterTable$Court", "lies", "I", false)
  | 3 => ("TasterTable$Court", "chance", "I", false)
  | 4 => ("TasterTable$Court", "days", "I", false)
  | 5 => ("TasterTable$Court", "hadSince", "[I", true)
  | 6 => ("TasterTable$Court", "dishOn", "[I", true)
  | 7 => ("TasterTable$Court", "poisonOn", "[I", true)
  | 8 => ("TasterTable$Court", "fellOn", "[I", true)
  | _ => ("TasterTable$Court", "failedOn", "[I", true)
def tyX1 : Nat → FieldType := fun k => match k with
  | 0 => .boolean
  | 1 => .int
  | 2 => .int
  | 3 => .int
  | 4 => .int
  | 5 => .array .int
  | 6 => .array .int
  | 7 => .array .int
  | 8 => .array .int
  | _ => .array .int
abbrev wsX10 : List Cond := u_ws RX1 TX1 10
theorem nmX1 : ∀ a, a < 10 → ∀ b, b < 10 → a ≠ b → (TX1 a).2.1 ≠ (TX1 b).2.1 := by decide +kernel
theorem tyX1_ok : ∀ k, k < 10 → parseFieldDescriptor (TX1 k).2.2.1 = some (tyX1 k) := by decide +kernel
def RX2 : String := "TasterTable$Judge"
def TX2 : u_T := fun k => match k with
  | 0 => ("TasterTable$Judge", "board", "LTasterTable$Board;", false)
  | 1 => ("TasterTable$Judge", "log", "LTasterTable$Log;", false)
  | 2 => ("TasterTable$Judge", "now", "I", false)
  | 3 => ("TasterTable$Judge", "caseCount", "I", false)
  | 4 => ("TasterTable$Judge", "falls", "[I", true)
  | 5 => ("TasterTable$Judge", "fits", "[I", true)
  | 6 => ("TasterTable$Judge", "fitting", "I", false)
  | 7 => ("TasterTable$Judge", "trialCode", "I", false)
  | _ => ("TasterTable$Judge", "trialGroup", "I", false)
def tyX2 : Nat → FieldType := fun k => match k with
  | 0 => .object "TasterTable$Board"
  | 1 => .object "TasterTable$Log"
  | 2 => .int
  | 3 => .int
  | 4 => .array .int
  | 5 => .array .int
  | 6 => .int
  | 7 => .int
  | _ => .int
abbrev wsX20 : List Cond := u_ws RX2 TX2 9
theorem nmX2 : ∀ a, a < 9 → ∀ b, b < 9 → a ≠ b → (TX2 a).2.1 ≠ (TX2 b).2.1 := by decide +kernel
theorem tyX2_ok : ∀ k, k < 9 → parseFieldDescriptor (TX2 k).2.2.1 = some (tyX2 k) := by decide +kernel
def RX3 : String := "TasterTable$Log"
def TX3 : u_T := fun k => match k with
  | 0 => ("TasterTable$Log", "events", "I", false)
  | 1 => ("TasterTable$Log", "who", "[I", true)
  | 2 => ("TasterTable$Log", "dishEaten", "[I", true)
  | 3 => ("TasterTable$Log", "tickOf", "[I", true)
  | 4 => ("TasterTable$Log", "withWine", "[I", true)
  | _ => ("TasterTable$Log", "fellAt", "[I", true)
def tyX3 : Nat → FieldType := fun k => match k with
  | 0 => .int
  | 1 => .array .int
  | 2 => .array .int
  | 3 => .array .int
  | 4 => .array .int
  | _ => .array .int
abbrev wsX30 : List Cond := u_ws RX3 TX3 6
theorem nmX3 : ∀ a, a < 6 → ∀ b, b < 6 → a ≠ b → (TX3 a).2.1 ≠ (TX3 b).2.1 := by decide +kernel
theorem tyX3_ok : ∀ k, k < 6 → parseFieldDescriptor (TX3 k).2.2.1 = some (tyX3 k) := by decide +kernel
def RX4 : String := "TasterTable$Plan"
def TX4 : u_T := fun k => match k with
  | 0 => ("TasterTable$Plan", "known", "Z", false)
  | 1 => ("TasterTable$Plan", "exists", "Z", false)
  | 2 => ("TasterTable$Plan", "tasters", "I", false)
  | 3 => ("TasterTable$Plan", "cold", "I", false)
  | 4 => ("TasterTable$Plan", "sets", "[I", true)
  | _ => ("TasterTable$Plan", "ticks", "[I", true)
def tyX4 : Nat → FieldType := fun k => match k with
  | 0 => .boolean
  | 1 => .boolean
  | 2 => .int
  | 3 => .int
  | 4 => .array .int
  | _ => .array .int
abbrev wsX40 : List Cond := u_ws RX4 TX4 6
theorem nmX4 : ∀ a, a < 6 → ∀ b, b < 6 → a ≠ b → (TX4 a).2.1 ≠ (TX4 b).2.1 := by decide +kernel
theorem tyX4_ok : ∀ k, k < 6 → parseFieldDescriptor (TX4 k).2.2.1 = some (tyX4 k) := by decide +kernel
def RX5 : String := "TasterTable$Planner"
def TX5 : u_T := fun k => match k with
  | 0 => ("TasterTable$Planner", "plans", "[LTasterTable$Plan;", true)
  | 1 => ("TasterTable$Planner", "board", "LTasterTable$Board;", false)
  | 2 => ("TasterTable$Planner", "coldOf", "[I", true)
  | 3 => ("TasterTable$Planner", "leanSets", "[I", true)
  | 4 => ("TasterTable$Planner", "leanCount", "I", false)
  | 5 => ("TasterTable$Planner", "capsLeft", "[I", true)
  | 6 => ("TasterTable$Planner", "row", "[I", true)
  | 7 => ("TasterTable$Planner", "notes", "[I", true)
  | _ => ("TasterTable$Planner", "search", "I", false)
def tyX5 : Nat → FieldType := fun k => match k with
  | 0 => .array (.object "TasterTable$Plan")
  | 1 => .object "TasterTable$Board"
  | 2 => .array .int
  | 3 => .array .int
  | 4 => .int
  | 5 => .array .int
  | 6 => .array .int
  | 7 => .array .int
  | _ => .int
abbrev wsX50 : List Cond := u_ws RX5 TX5 9
theorem nmX5 : ∀ a, a < 9 → ∀ b, b < 9 → a ≠ b → (TX5 a).2.1 ≠ (TX5 b).2.1 := by decide +kernel
theorem tyX5_ok : ∀ k, k < 9 → parseFieldDescriptor (TX5 k).2.2.1 = some (tyX5 k) := by decide +kernel
def RX6 : String := "TasterTable$Reader"
def TX6 : u_T := fun k => match k with
  | 0 => ("TasterTable$Reader", "text", "[B", true)
  | 1 => ("TasterTable$Reader", "tapeLength", "I", false)
  | 2 => ("TasterTable$Reader", "length", "I", false)
  | 3 => ("TasterTable$Reader", "at", "I", false)
  | 4 => ("TasterTable$Reader", "token", "I", false)
  | 5 => ("TasterTable$Reader", "start", "I", false)
  | 6 => ("TasterTable$Reader", "value", "I", false)
  | 7 => ("TasterTable$Reader", "fault", "I", false)
  | 8 => ("TasterTable$Reader", "cleanTold", "Z", false)
  | 9 => ("TasterTable$Reader", "hadTold", "[I", true)
  | _ => ("TasterTable$Reader", "place", "I", false)
def tyX6 : Nat → FieldType := fun k => match k with
  | 0 => .array .byte
  | 1 => .int
  | 2 => .int
  | 3 => .int
  | 4 => .int
  | 5 => .int
  | 6 => .int
  | 7 => .int
  | 8 => .boolean
  | 9 => .array .int
  | _ => .int
abbrev wsX60 : List Cond := u_ws RX6 TX6 11
theorem nmX6 : ∀ a, a < 11 → ∀ b, b < 11 → a ≠ b → (TX6 a).2.1 ≠ (TX6 b).2.1 := by decide +kernel
theorem tyX6_ok : ∀ k, k < 11 → parseFieldDescriptor (TX6 k).2.2.1 = some (tyX6 k) := by decide +kernel
def RX7 : String := "TasterTable"
def TX7 : u_T := fun k => match k with
  | 0 => ("TasterTable", "board", "LTasterTable$Board;", false)
  | 1 => ("TasterTable", "draft", "LTasterTable$Board;", false)
  | 2 => ("TasterTable", "reader", "LTasterTable$Reader;", true)
  | 3 => ("TasterTable", "planner", "LTasterTable$Planner;", true)
  | 4 => ("TasterTable", "judge", "LTasterTable$Judge;", true)
  | 5 => ("TasterTable", "log", "LTasterTable$Log;", true)
  | 6 => ("TasterTable", "logImage", "LTasterTable$Log;", true)
  | 7 => ("TasterTable", "court", "LTasterTable$Court;", true)
  | 8 => ("TasterTable", "courtImage", "LTasterTable$Court;", true)
  | 9 => ("TasterTable", "hasImage", "Z", false)
  | 10 => ("TasterTable", "keptLies", "I", false)
  | 11 => ("TasterTable", "faultPlace", "I", false)
  | 12 => ("TasterTable", "refusedTexts", "I", false)
  | 13 => ("TasterTable", "refusedEvents", "I", false)
  | _ => ("TasterTable", "refusedDays", "I", false)
def tyX7 : Nat → FieldType := fun k => match k with
  | 0 => .object "TasterTable$Board"
  | 1 => .object "TasterTable$Board"
  | 2 => .object "TasterTable$Reader"
  | 3 => .object "TasterTable$Planner"
  | 4 => .object "TasterTable$Judge"
  | 5 => .object "TasterTable$Log"
  | 6 => .object "TasterTable$Log"
  | 7 => .object "TasterTable$Court"
  | 8 => .object "TasterTable$Court"
  | 9 => .boolean
  | 10 => .int
  | 11 => .int
  | 12 => .int
  | 13 => .int
  | _ => .int
abbrev wsX70 : List Cond := u_ws RX7 TX7 15
theorem nmX7 : ∀ a, a < 15 → ∀ b, b < 15 → a ≠ b → (TX7 a).2.1 ≠ (TX7 b).2.1 := by decide +kernel
theorem tyX7_ok : ∀ k, k < 15 → parseFieldDescriptor (TX7 k).2.2.1 = some (tyX7 k) := by decide +kernel
def RX8 : String := "TasterTableModel"
def TX8 : u_T := fun k => match k with
  | 0 => ("TasterTableModel", "thrown", "I", false)
  | 1 => ("TasterTableModel", "dishes", "I", false)
  | 2 => ("TasterTableModel", "poisons", "I", false)
  | 3 => ("TasterTableModel", "tasters", "I", false)
  | 4 => ("TasterTableModel", "clean", "I", false)
  | 5 => ("TasterTableModel", "dish", "[I", true)
  | 6 => ("TasterTableModel", "poison", "[I", true)
  | 7 => ("TasterTableModel", "taster", "[I", true)
  | 8 => ("TasterTableModel", "had", "[I", true)
  | 9 => ("TasterTableModel", "tape", "[I", true)
  | 10 => ("TasterTableModel", "taped", "I", false)
  | 11 => ("TasterTableModel", "faultKind", "I", false)
  | 12 => ("TasterTableModel", "faultPlace", "I", false)
  | 13 => ("TasterTableModel", "refused", "[I", true)
  | 14 => ("TasterTableModel", "size", "I", false)
  | 15 => ("TasterTableModel", "next", "I", false)
  | 16 => ("TasterTableModel", "sort", "I", false)
  | 17 => ("TasterTableModel", "place", "I", false)
  | 18 => ("TasterTableModel", "long0", "I", false)
  | 19 => ("TasterTableModel", "value", "I", false)
  | 20 => ("TasterTableModel", "word", "J", false)
  | 21 => ("TasterTableModel", "newDishes", "I", false)
  | 22 => ("TasterTableModel", "newPoisons", "I", false)
  | 23 => ("TasterTableModel", "newTasters", "I", false)
  | 24 => ("TasterTableModel", "newClean", "I", false)
  | 25 => ("TasterTableModel", "hadTold", "I", false)
  | 26 => ("TasterTableModel", "hasClean", "Z", false)
  | 27 => ("TasterTableModel", "newDish", "[I", true)
  | 28 => ("TasterTableModel", "newPoison", "[I", true)
  | 29 => ("TasterTableModel", "newTaster", "[I", true)
  | 30 => ("TasterTableModel", "newHad", "[I", true)
  | 31 => ("TasterTableModel", "cold", "[I", true)
  | 32 => ("TasterTableModel", "against", "I", false)
  | 33 => ("TasterTableModel", "barred", "I", false)
  | 34 => ("TasterTableModel", "least", "[I", true)
  | 35 => ("TasterTableModel", "plan", "[I", true)
  | 36 => ("TasterTableModel", "row", "[I", true)
  | 37 => ("TasterTableModel", "power", "[I", true)
  | 38 => ("TasterTableModel", "hasPlan", "Z", false)
  | 39 => ("TasterTableModel", "planCold", "I", false)
  | 40 => ("TasterTableModel", "planMany", "I", false)
  | 41 => ("TasterTableModel", "kept", "[I", true)
  | 42 => ("TasterTableModel", "events", "I", false)
  | 43 => ("TasterTableModel", "event", "[I", true)
  | 44 => ("TasterTableModel", "groups", "[I", true)
  | 45 => ("TasterTableModel", "ways", "[J", true)
  | 46 => ("TasterTableModel", "days", "I", false)
  | 47 => ("TasterTableModel", "seed", "I", false)
  | 48 => ("TasterTableModel", "courtLies", "I", false)
  | 49 => ("TasterTableModel", "courtChance", "I", false)
  | 50 => ("TasterTableModel", "court", "[I", true)
  | 51 => ("TasterTableModel", "courtHad", "[I", true)
  | 52 => ("TasterTableModel", "day", "[I", true)
  | 53 => ("TasterTableModel", "hasImage", "Z", false)
  | 54 => ("TasterTableModel", "imageEvents", "I", false)
  | 55 => ("TasterTableModel", "imageDays", "I", false)
  | 56 => ("TasterTableModel", "imageSeed", "I", false)
  | 57 => ("TasterTableModel", "imageLies", "I", false)
  | 58 => ("TasterTableModel", "imageChance", "I", false)
  | 59 => ("TasterTableModel", "imageEvent", "[I", true)
  | 60 => ("TasterTableModel", "imageCourt", "[I", true)
  | 61 => ("TasterTableModel", "imageHad", "[I", true)
  | _ => ("TasterTableModel", "imageDay", "[I", true)
def tyX8 : Nat → FieldType := fun k => match k with
  | 0 => .int
  | 1 => .int
  | 2 => .int
  | 3 => .int
  | 4 => .int
  | 5 => .array .int
  | 6 => .array .int
  | 7 => .array .int
  | 8 => .array .int
  | 9 => .array .int
  | 10 => .int
  | 11 => .int
  | 12 => .int
  | 13 => .array .int
  | 14 => .int
  | 15 => .int
  | 16 => .int
  | 17 => .int
  | 18 => .int
  | 19 => .int
  | 20 => .long
  | 21 => .int
  | 22 => .int
  | 23 => .int
  | 24 => .int
  | 25 => .int
  | 26 => .boolean
  | 27 => .array .int
  | 28 => .array .int
  | 29 => .array .int
  | 30 => .array .int
  | 31 => .array .int
  | 32 => .int
  | 33 => .int
  | 34 => .array .int
  | 35 => .array .int
  | 36 => .array .int
  | 37 => .array .int
  | 38 => .boolean
  | 39 => .int
  | 40 => .int
  | 41 => .array .int
  | 42 => .int
  | 43 => .array .int
  | 44 => .array .int
  | 45 => .array .long
  | 46 => .int
  | 47 => .int
  | 48 => .int
  | 49 => .int
  | 50 => .array .int
  | 51 => .array .int
  | 52 => .array .int
  | 53 => .boolean
  | 54 => .int
  | 55 => .int
  | 56 => .int
  | 57 => .int
  | 58 => .int
  | 59 => .array .int
  | 60 => .array .int
  | 61 => .array .int
  | _ => .array .int
abbrev wsX80 : List Cond := u_ws RX8 TX8 63
theorem nmX8 : ∀ a, a < 63 → ∀ b, b < 63 → a ≠ b → (TX8 a).2.1 ≠ (TX8 b).2.1 := by decide +kernel
theorem tyX8_ok : ∀ k, k < 63 → parseFieldDescriptor (TX8 k).2.2.1 = some (tyX8 k) := by decide +kernel
abbrev vwCl : List vw_C := [(RX0, TX0, 14), (RX1, TX1, 10), (RX2, TX2, 9), (RX3, TX3, 6), (RX4, TX4, 6), (RX5, TX5, 9), (RX6, TX6, 11), (RX7, TX7, 15), (RX8, TX8, 63)]
/-! the good words of the tables -/
def mBIG : List Cond := lw_tbl.filter goodWord
theorem mBIG_sub : ∀ w ∈ mBIG, w ∈ lw_tbl := fun _ h => (List.mem_filter.mp h).1
theorem mBIG_good : ∀ w ∈ mBIG, goodWord w = true := fun _ h => (List.mem_filter.mp h).2
theorem mBIG_in {w : Cond} (h : w ∈ tables_1) (hg : goodWord w = true) : w ∈ mBIG := List.mem_filter.mpr ⟨List.mem_append_right _ h, hg⟩
/-- a word by its number in the tables -/
def mWrd (w : Nat) : Option Cond := match w / 240 with
  | 0 => tables_1_1[w % 240]?
  | 1 => tables_1_2[w % 240]?
  | 2 => tables_1_3[w % 240]?
  | 3 => tables_1_4[w % 240]?
  | 4 => tables_1_5[w % 240]?
  | 5 => tables_1_6[w % 240]?
  | 6 => tables_1_7[w % 240]?
  | _ => none
theorem mWrd_in {w : Nat} {c : Cond} (h : mWrd w = some c) : c ∈ tables_1 := by
  unfold mWrd at h
  unfold tables_1
  split at h
  · exact List.mem_append_left _ (List.mem_of_getElem? h)
  · exact List.mem_append_right _ (List.mem_append_left _ (List.mem_of_getElem? h))
  · exact List.mem_append_right _ (List.mem_append_right _ (List.mem_append_left _ (List.mem_of_getElem? h)))
  · exact List.mem_append_right _ (List.mem_append_right _ (List.mem_append_right _ (List.mem_append_left _ (List.mem_of_getElem? h))))
  · exact List.mem_append_right _ (List.mem_append_right _ (List.mem_append_right _ (List.mem_append_right _ (List.mem_append_left _ (List.mem_of_getElem? h)))))
  · exact List.mem_append_right _ (List.mem_append_right _ (List.mem_append_right _ (List.mem_append_right _ (List.mem_append_right _ (List.mem_append_left _ (List.mem_of_getElem? h))))))
  · exact List.mem_append_right _ (List.mem_append_right _ (List.mem_append_right _ (List.mem_append_right _ (List.mem_append_right _ (List.mem_append_right _ (List.mem_of_getElem? h))))))
  · cases h
theorem mWrd_big {w : Nat} {c : Cond} (h : mWrd w = some c) (hg : goodWord c = true) : c ∈ mBIG := mBIG_in (mWrd_in h) hg
