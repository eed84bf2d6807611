section
-- ===== PART A: goes FIRST, ahead of the names: the tables' words, and 'selects' of the private methods out of them =====
/-- a private method of a class that the tables say can be made, by its rows of tables_1 -/
def lw_okq (q : MethodName × Nat) : Prop := (q.1.cls ≠ "java/lang/invoke/MethodHandle" ∧ q.1.cls ≠ "java/lang/invoke/VarHandle") ∧ Cond.instantiable q.1.cls q.2 ∈ tables_1 ∧ Cond.privateMethod q.1 ∈ tables_1 ∧ Cond.instanceMethod q.1 ∈ tables_1
theorem lw_p0 : lw_okq (⟨"SchoolOnRaft", "bring", "(II)I"⟩, 10) := ⟨⟨by decide +kernel, by decide +kernel⟩, List.mem_of_getElem? (i := 23) (by decide +kernel), List.mem_of_getElem? (i := 316) (by decide +kernel), List.mem_of_getElem? (i := 317) (by decide +kernel)⟩
theorem lw_p1 : lw_okq (⟨"SchoolOnRaft", "maySet", "(III)Z"⟩, 10) := ⟨⟨by decide +kernel, by decide +kernel⟩, List.mem_of_getElem? (i := 23) (by decide +kernel), List.mem_of_getElem? (i := 334) (by decide +kernel), List.mem_of_getElem? (i := 335) (by decide +kernel)⟩
theorem lw_p2 : lw_okq (⟨"SchoolOnRaft", "isLesson", "(I)Z"⟩, 10) := ⟨⟨by decide +kernel, by decide +kernel⟩, List.mem_of_getElem? (i := 23) (by decide +kernel), List.mem_of_getElem? (i := 338) (by decide +kernel), List.mem_of_getElem? (i := 339) (by decide +kernel)⟩
theorem lw_p3 : lw_okq (⟨"SchoolOnRaft", "isChild", "(I)Z"⟩, 10) := ⟨⟨by decide +kernel, by decide +kernel⟩, List.mem_of_getElem? (i := 23) (by decide +kernel), List.mem_of_getElem? (i := 342) (by decide +kernel), List.mem_of_getElem? (i := 343) (by decide +kernel)⟩
theorem lw_p4 : lw_okq (⟨"SchoolOnRaft", "settable", "(I)[I"⟩, 10) := ⟨⟨by decide +kernel, by decide +kernel⟩, List.mem_of_getElem? (i := 23) (by decide +kernel), List.mem_of_getElem? (i := 346) (by decide +kernel), List.mem_of_getElem? (i := 347) (by decide +kernel)⟩
theorem lw_p5 : lw_okq (⟨"SchoolOnRaft", "planOf", "(I)[I"⟩, 10) := ⟨⟨by decide +kernel, by decide +kernel⟩, List.mem_of_getElem? (i := 23) (by decide +kernel), List.mem_of_getElem? (i := 411) (by decide +kernel), List.mem_of_getElem? (i := 412) (by decide +kernel)⟩
theorem lw_p6 : lw_okq (⟨"SchoolOnRaft$Reader", "advance", "()V"⟩, 7) := ⟨⟨by decide +kernel, by decide +kernel⟩, List.mem_of_getElem? (i := 224) (by decide +kernel), List.mem_of_getElem? (i := 431) (by decide +kernel), List.mem_of_getElem? (i := 432) (by decide +kernel)⟩
theorem lw_p7 : lw_okq (⟨"SchoolOnRaft$Reader", "number", "()I"⟩, 7) := ⟨⟨by decide +kernel, by decide +kernel⟩, List.mem_of_getElem? (i := 224) (by decide +kernel), List.mem_of_getElem? (i := 438) (by decide +kernel), List.mem_of_getElem? (i := 439) (by decide +kernel)⟩
theorem lw_p8 : lw_okq (⟨"SchoolOnRaft$Reader", "word", "()I"⟩, 7) := ⟨⟨by decide +kernel, by decide +kernel⟩, List.mem_of_getElem? (i := 224) (by decide +kernel), List.mem_of_getElem? (i := 445) (by decide +kernel), List.mem_of_getElem? (i := 446) (by decide +kernel)⟩
theorem lw_p9 : lw_okq (⟨"SchoolOnRaft$Reader", "reads", "(Ljava/lang/String;)Z"⟩, 7) := ⟨⟨by decide +kernel, by decide +kernel⟩, List.mem_of_getElem? (i := 224) (by decide +kernel), List.mem_of_getElem? (i := 450) (by decide +kernel), List.mem_of_getElem? (i := 451) (by decide +kernel)⟩
theorem lw_p10 : lw_okq (⟨"SchoolOnRaft$Reader", "section", "(I)[I"⟩, 7) := ⟨⟨by decide +kernel, by decide +kernel⟩, List.mem_of_getElem? (i := 224) (by decide +kernel), List.mem_of_getElem? (i := 516) (by decide +kernel), List.mem_of_getElem? (i := 517) (by decide +kernel)⟩
theorem lw_p11 : lw_okq (⟨"SchoolOnRaft$Reader", "either", "(I)Z"⟩, 7) := ⟨⟨by decide +kernel, by decide +kernel⟩, List.mem_of_getElem? (i := 224) (by decide +kernel), List.mem_of_getElem? (i := 520) (by decide +kernel), List.mem_of_getElem? (i := 521) (by decide +kernel)⟩
theorem lw_p12 : lw_okq (⟨"SchoolOnRaft$Reader", "both", "(I)Z"⟩, 7) := ⟨⟨by decide +kernel, by decide +kernel⟩, List.mem_of_getElem? (i := 224) (by decide +kernel), List.mem_of_getElem? (i := 524) (by decide +kernel), List.mem_of_getElem? (i := 525) (by decide +kernel)⟩
theorem lw_p13 : lw_okq (⟨"SchoolOnRaft$Reader", "denied", "(I)Z"⟩, 7) := ⟨⟨by decide +kernel, by decide +kernel⟩, List.mem_of_getElem? (i := 224) (by decide +kernel), List.mem_of_getElem? (i := 528) (by decide +kernel), List.mem_of_getElem? (i := 529) (by decide +kernel)⟩
theorem lw_p14 : lw_okq (⟨"SchoolOnRaft$Reader", "compared", "(I)Z"⟩, 7) := ⟨⟨by decide +kernel, by decide +kernel⟩, List.mem_of_getElem? (i := 224) (by decide +kernel), List.mem_of_getElem? (i := 532) (by decide +kernel), List.mem_of_getElem? (i := 533) (by decide +kernel)⟩
theorem lw_p15 : lw_okq (⟨"SchoolOnRaft$Reader", "sum", "(I)Z"⟩, 7) := ⟨⟨by decide +kernel, by decide +kernel⟩, List.mem_of_getElem? (i := 224) (by decide +kernel), List.mem_of_getElem? (i := 536) (by decide +kernel), List.mem_of_getElem? (i := 537) (by decide +kernel)⟩
def lw_privs_1 : List (MethodName × Nat) := [(⟨"SchoolOnRaft", "bring", "(II)I"⟩, 10), (⟨"SchoolOnRaft", "maySet", "(III)Z"⟩, 10), (⟨"SchoolOnRaft", "isLesson", "(I)Z"⟩, 10), (⟨"SchoolOnRaft", "isChild", "(I)Z"⟩, 10), (⟨"SchoolOnRaft", "settable", "(I)[I"⟩, 10), (⟨"SchoolOnRaft", "planOf", "(I)[I"⟩, 10), (⟨"SchoolOnRaft$Reader", "advance", "()V"⟩, 7), (⟨"SchoolOnRaft$Reader", "number", "()I"⟩, 7), (⟨"SchoolOnRaft$Reader", "word", "()I"⟩, 7), (⟨"SchoolOnRaft$Reader", "reads", "(Ljava/lang/String;)Z"⟩, 7), (⟨"SchoolOnRaft$Reader", "section", "(I)[I"⟩, 7), (⟨"SchoolOnRaft$Reader", "either", "(I)Z"⟩, 7), (⟨"SchoolOnRaft$Reader", "both", "(I)Z"⟩, 7), (⟨"SchoolOnRaft$Reader", "denied", "(I)Z"⟩, 7), (⟨"SchoolOnRaft$Reader", "compared", "(I)Z"⟩, 7), (⟨"SchoolOnRaft$Reader", "sum", "(I)Z"⟩, 7)]
theorem lw_r1 : ∀ q ∈ lw_privs_1, lw_okq q := List.forall_mem_cons.mpr ⟨lw_p0, List.forall_mem_cons.mpr ⟨lw_p1, List.forall_mem_cons.mpr ⟨lw_p2, List.forall_mem_cons.mpr ⟨lw_p3, List.forall_mem_cons.mpr ⟨lw_p4, List.forall_mem_cons.mpr ⟨lw_p5, List.forall_mem_cons.mpr ⟨lw_p6, List.forall_mem_cons.mpr ⟨lw_p7, List.forall_mem_cons.mpr ⟨lw_p8, List.forall_mem_cons.mpr ⟨lw_p9, List.forall_mem_cons.mpr ⟨lw_p10, List.forall_mem_cons.mpr ⟨lw_p11, List.forall_mem_cons.mpr ⟨lw_p12, List.forall_mem_cons.mpr ⟨lw_p13, List.forall_mem_cons.mpr ⟨lw_p14, List.forall_mem_cons.mpr ⟨lw_p15, fun _ h => absurd h List.not_mem_nil⟩⟩⟩⟩⟩⟩⟩⟩⟩⟩⟩⟩⟩⟩⟩⟩
theorem lw_p16 : lw_okq (⟨"SchoolOnRaft$Reader", "term", "(I)Z"⟩, 7) := ⟨⟨by decide +kernel, by decide +kernel⟩, List.mem_of_getElem? (i := 224) (by decide +kernel), List.mem_of_getElem? (i := 540) (by decide +kernel), List.mem_of_getElem? (i := 541) (by decide +kernel)⟩
theorem lw_p17 : lw_okq (⟨"SchoolOnRaft$Reader", "one", "(I)Z"⟩, 7) := ⟨⟨by decide +kernel, by decide +kernel⟩, List.mem_of_getElem? (i := 224) (by decide +kernel), List.mem_of_getElem? (i := 544) (by decide +kernel), List.mem_of_getElem? (i := 545) (by decide +kernel)⟩
theorem lw_p18 : lw_okq (⟨"SchoolOnRaft$Reader", "write", "(I)V"⟩, 7) := ⟨⟨by decide +kernel, by decide +kernel⟩, List.mem_of_getElem? (i := 224) (by decide +kernel), List.mem_of_getElem? (i := 548) (by decide +kernel), List.mem_of_getElem? (i := 549) (by decide +kernel)⟩
theorem lw_p19 : lw_okq (⟨"SchoolOnRaft$Spring", "stage", "(IIIII)V"⟩, 7) := ⟨⟨by decide +kernel, by decide +kernel⟩, List.mem_of_getElem? (i := 31) (by decide +kernel), List.mem_of_getElem? (i := 629) (by decide +kernel), List.mem_of_getElem? (i := 630) (by decide +kernel)⟩
theorem lw_p20 : lw_okq (⟨"SchoolOnRaft$Spring", "ruleText", "()LSchoolOnRaft$Text;"⟩, 7) := ⟨⟨by decide +kernel, by decide +kernel⟩, List.mem_of_getElem? (i := 31) (by decide +kernel), List.mem_of_getElem? (i := 633) (by decide +kernel), List.mem_of_getElem? (i := 634) (by decide +kernel)⟩
theorem lw_p21 : lw_okq (⟨"SchoolOnRaft$Spring", "worked", "([I)I"⟩, 7) := ⟨⟨by decide +kernel, by decide +kernel⟩, List.mem_of_getElem? (i := 31) (by decide +kernel), List.mem_of_getElem? (i := 637) (by decide +kernel), List.mem_of_getElem? (i := 638) (by decide +kernel)⟩
theorem lw_p22 : lw_okq (⟨"SchoolOnRaft", "pointsOfAll", "([I)I"⟩, 10) := ⟨⟨by decide +kernel, by decide +kernel⟩, List.mem_of_getElem? (i := 23) (by decide +kernel), List.mem_of_getElem? (i := 660) (by decide +kernel), List.mem_of_getElem? (i := 661) (by decide +kernel)⟩
theorem lw_p23 : lw_okq (⟨"SchoolOnRaft$Search", "visit", "(LSchoolOnRaft$Spring;I)V"⟩, 7) := ⟨⟨by decide +kernel, by decide +kernel⟩, List.mem_of_getElem? (i := 194) (by decide +kernel), List.mem_of_getElem? (i := 685) (by decide +kernel), List.mem_of_getElem? (i := 686) (by decide +kernel)⟩
theorem lw_p24 : lw_okq (⟨"SchoolOnRaft$Search", "weigh", "(LSchoolOnRaft$Spring;)V"⟩, 7) := ⟨⟨by decide +kernel, by decide +kernel⟩, List.mem_of_getElem? (i := 194) (by decide +kernel), List.mem_of_getElem? (i := 689) (by decide +kernel), List.mem_of_getElem? (i := 690) (by decide +kernel)⟩
theorem lw_p25 : lw_okq (⟨"SchoolOnRaft$Search", "step", "(LSchoolOnRaft$Spring;II)Z"⟩, 7) := ⟨⟨by decide +kernel, by decide +kernel⟩, List.mem_of_getElem? (i := 194) (by decide +kernel), List.mem_of_getElem? (i := 698) (by decide +kernel), List.mem_of_getElem? (i := 699) (by decide +kernel)⟩
theorem lw_p26 : lw_okq (⟨"SchoolOnRaft$Search", "listens", "(LSchoolOnRaft$Spring;IIII)Z"⟩, 7) := ⟨⟨by decide +kernel, by decide +kernel⟩, List.mem_of_getElem? (i := 194) (by decide +kernel), List.mem_of_getElem? (i := 702) (by decide +kernel), List.mem_of_getElem? (i := 703) (by decide +kernel)⟩
theorem lw_p27 : lw_okq (⟨"SchoolOnRaft", "costOf", "(III)I"⟩, 10) := ⟨⟨by decide +kernel, by decide +kernel⟩, List.mem_of_getElem? (i := 23) (by decide +kernel), List.mem_of_getElem? (i := 718) (by decide +kernel), List.mem_of_getElem? (i := 719) (by decide +kernel)⟩
theorem lw_p28 : lw_okq (⟨"SchoolOnRaft", "pointsChanging", "(II)I"⟩, 10) := ⟨⟨by decide +kernel, by decide +kernel⟩, List.mem_of_getElem? (i := 23) (by decide +kernel), List.mem_of_getElem? (i := 734) (by decide +kernel), List.mem_of_getElem? (i := 735) (by decide +kernel)⟩
theorem lw_p29 : lw_okq (⟨"SchoolOnRaft", "refusalOfExam", "(II)I"⟩, 10) := ⟨⟨by decide +kernel, by decide +kernel⟩, List.mem_of_getElem? (i := 23) (by decide +kernel), List.mem_of_getElem? (i := 742) (by decide +kernel), List.mem_of_getElem? (i := 743) (by decide +kernel)⟩
theorem lw_p30 : lw_okq (⟨"SchoolOnRaft", "ownedAtEnd", "(I[I)I"⟩, 10) := ⟨⟨by decide +kernel, by decide +kernel⟩, List.mem_of_getElem? (i := 23) (by decide +kernel), List.mem_of_getElem? (i := 762) (by decide +kernel), List.mem_of_getElem? (i := 763) (by decide +kernel)⟩
theorem lw_p31 : lw_okq (⟨"SchoolOnRaft", "endsOf", "(I)I"⟩, 10) := ⟨⟨by decide +kernel, by decide +kernel⟩, List.mem_of_getElem? (i := 23) (by decide +kernel), List.mem_of_getElem? (i := 766) (by decide +kernel), List.mem_of_getElem? (i := 767) (by decide +kernel)⟩
def lw_privs_2 : List (MethodName × Nat) := [(⟨"SchoolOnRaft$Reader", "term", "(I)Z"⟩, 7), (⟨"SchoolOnRaft$Reader", "one", "(I)Z"⟩, 7), (⟨"SchoolOnRaft$Reader", "write", "(I)V"⟩, 7), (⟨"SchoolOnRaft$Spring", "stage", "(IIIII)V"⟩, 7), (⟨"SchoolOnRaft$Spring", "ruleText", "()LSchoolOnRaft$Text;"⟩, 7), (⟨"SchoolOnRaft$Spring", "worked", "([I)I"⟩, 7), (⟨"SchoolOnRaft", "pointsOfAll", "([I)I"⟩, 10), (⟨"SchoolOnRaft$Search", "visit", "(LSchoolOnRaft$Spring;I)V"⟩, 7), (⟨"SchoolOnRaft$Search", "weigh", "(LSchoolOnRaft$Spring;)V"⟩, 7), (⟨"SchoolOnRaft$Search", "step", "(LSchoolOnRaft$Spring;II)Z"⟩, 7), (⟨"SchoolOnRaft$Search", "listens", "(LSchoolOnRaft$Spring;IIII)Z"⟩, 7), (⟨"SchoolOnRaft", "costOf", "(III)I"⟩, 10), (⟨"SchoolOnRaft", "pointsChanging", "(II)I"⟩, 10), (⟨"SchoolOnRaft", "refusalOfExam", "(II)I"⟩, 10), (⟨"SchoolOnRaft", "ownedAtEnd", "(I[I)I"⟩, 10), (⟨"SchoolOnRaft", "endsOf", "(I)I"⟩, 10)]
theorem lw_r2 : ∀ q ∈ lw_privs_2, lw_okq q := List.forall_mem_cons.mpr ⟨lw_p16, List.forall_mem_cons.mpr ⟨lw_p17, List.forall_mem_cons.mpr ⟨lw_p18, List.forall_mem_cons.mpr ⟨lw_p19, List.forall_mem_cons.mpr ⟨lw_p20, List.forall_mem_cons.mpr ⟨lw_p21, List.forall_mem_cons.mpr ⟨lw_p22, List.forall_mem_cons.mpr ⟨lw_p23, List.forall_mem_cons.mpr ⟨lw_p24, List.forall_mem_cons.mpr ⟨lw_p25, List.forall_mem_cons.mpr ⟨lw_p26, List.forall_mem_cons.mpr ⟨lw_p27, List.forall_mem_cons.mpr ⟨lw_p28, List.forall_mem_cons.mpr ⟨lw_p29, List.forall_mem_cons.mpr ⟨lw_p30, List.forall_mem_cons.mpr ⟨lw_p31, fun _ h => absurd h List.not_mem_nil⟩⟩⟩⟩⟩⟩⟩⟩⟩⟩⟩⟩⟩⟩⟩⟩
theorem lw_p32 : lw_okq (⟨"SchoolOnRaft", "whoHave", "(I[I)I"⟩, 10) := ⟨⟨by decide +kernel, by decide +kernel⟩, List.mem_of_getElem? (i := 23) (by decide +kernel), List.mem_of_getElem? (i := 775) (by decide +kernel), List.mem_of_getElem? (i := 776) (by decide +kernel)⟩
theorem lw_p33 : lw_okq (⟨"SchoolOnRaft", "draw", "(II)V"⟩, 10) := ⟨⟨by decide +kernel, by decide +kernel⟩, List.mem_of_getElem? (i := 23) (by decide +kernel), List.mem_of_getElem? (i := 786) (by decide +kernel), List.mem_of_getElem? (i := 787) (by decide +kernel)⟩
theorem lw_p34 : lw_okq (⟨"SchoolOnRaftModel", "spell", "(IIIIIIIII)V"⟩, 49) := ⟨⟨by decide +kernel, by decide +kernel⟩, List.mem_of_getElem? (i := 856) (by decide +kernel), List.mem_of_getElem? (i := 862) (by decide +kernel), List.mem_of_getElem? (i := 863) (by decide +kernel)⟩
theorem lw_p35 : lw_okq (⟨"SchoolOnRaftModel", "isLesson", "(I)Z"⟩, 49) := ⟨⟨by decide +kernel, by decide +kernel⟩, List.mem_of_getElem? (i := 856) (by decide +kernel), List.mem_of_getElem? (i := 1034) (by decide +kernel), List.mem_of_getElem? (i := 1035) (by decide +kernel)⟩
theorem lw_p36 : lw_okq (⟨"SchoolOnRaftModel", "isChild", "(I)Z"⟩, 49) := ⟨⟨by decide +kernel, by decide +kernel⟩, List.mem_of_getElem? (i := 856) (by decide +kernel), List.mem_of_getElem? (i := 1038) (by decide +kernel), List.mem_of_getElem? (i := 1039) (by decide +kernel)⟩
theorem lw_p37 : lw_okq (⟨"SchoolOnRaftModel", "times", "(I)I"⟩, 49) := ⟨⟨by decide +kernel, by decide +kernel⟩, List.mem_of_getElem? (i := 856) (by decide +kernel), List.mem_of_getElem? (i := 1047) (by decide +kernel), List.mem_of_getElem? (i := 1048) (by decide +kernel)⟩
theorem lw_p38 : lw_okq (⟨"SchoolOnRaftModel", "pointsOf", "(I)I"⟩, 49) := ⟨⟨by decide +kernel, by decide +kernel⟩, List.mem_of_getElem? (i := 856) (by decide +kernel), List.mem_of_getElem? (i := 1051) (by decide +kernel), List.mem_of_getElem? (i := 1052) (by decide +kernel)⟩
theorem lw_p39 : lw_okq (⟨"SchoolOnRaftModel", "read", "(II)I"⟩, 49) := ⟨⟨by decide +kernel, by decide +kernel⟩, List.mem_of_getElem? (i := 856) (by decide +kernel), List.mem_of_getElem? (i := 1072) (by decide +kernel), List.mem_of_getElem? (i := 1073) (by decide +kernel)⟩
theorem lw_p40 : lw_okq (⟨"SchoolOnRaftModel", "next", "()V"⟩, 49) := ⟨⟨by decide +kernel, by decide +kernel⟩, List.mem_of_getElem? (i := 856) (by decide +kernel), List.mem_of_getElem? (i := 1076) (by decide +kernel), List.mem_of_getElem? (i := 1077) (by decide +kernel)⟩
theorem lw_p41 : lw_okq (⟨"SchoolOnRaftModel", "byteAt", "(I)I"⟩, 49) := ⟨⟨by decide +kernel, by decide +kernel⟩, List.mem_of_getElem? (i := 856) (by decide +kernel), List.mem_of_getElem? (i := 1080) (by decide +kernel), List.mem_of_getElem? (i := 1081) (by decide +kernel)⟩
theorem lw_p42 : lw_okq (⟨"SchoolOnRaftModel", "isWord", "(IIIIIIII)Z"⟩, 49) := ⟨⟨by decide +kernel, by decide +kernel⟩, List.mem_of_getElem? (i := 856) (by decide +kernel), List.mem_of_getElem? (i := 1089) (by decide +kernel), List.mem_of_getElem? (i := 1090) (by decide +kernel)⟩
theorem lw_p43 : lw_okq (⟨"SchoolOnRaftModel", "isLetter", "(II)Z"⟩, 49) := ⟨⟨by decide +kernel, by decide +kernel⟩, List.mem_of_getElem? (i := 856) (by decide +kernel), List.mem_of_getElem? (i := 1093) (by decide +kernel), List.mem_of_getElem? (i := 1094) (by decide +kernel)⟩
theorem lw_p44 : lw_okq (⟨"SchoolOnRaftModel", "part", "(Z)I"⟩, 49) := ⟨⟨by decide +kernel, by decide +kernel⟩, List.mem_of_getElem? (i := 856) (by decide +kernel), List.mem_of_getElem? (i := 1097) (by decide +kernel), List.mem_of_getElem? (i := 1098) (by decide +kernel)⟩
theorem lw_p45 : lw_okq (⟨"SchoolOnRaftModel", "fail", "()V"⟩, 49) := ⟨⟨by decide +kernel, by decide +kernel⟩, List.mem_of_getElem? (i := 856) (by decide +kernel), List.mem_of_getElem? (i := 1101) (by decide +kernel), List.mem_of_getElem? (i := 1102) (by decide +kernel)⟩
theorem lw_p46 : lw_okq (⟨"SchoolOnRaftModel", "either", "()I"⟩, 49) := ⟨⟨by decide +kernel, by decide +kernel⟩, List.mem_of_getElem? (i := 856) (by decide +kernel), List.mem_of_getElem? (i := 1105) (by decide +kernel), List.mem_of_getElem? (i := 1106) (by decide +kernel)⟩
theorem lw_p47 : lw_okq (⟨"SchoolOnRaftModel", "both", "()I"⟩, 49) := ⟨⟨by decide +kernel, by decide +kernel⟩, List.mem_of_getElem? (i := 856) (by decide +kernel), List.mem_of_getElem? (i := 1109) (by decide +kernel), List.mem_of_getElem? (i := 1110) (by decide +kernel)⟩
def lw_privs_3 : List (MethodName × Nat) := [(⟨"SchoolOnRaft", "whoHave", "(I[I)I"⟩, 10), (⟨"SchoolOnRaft", "draw", "(II)V"⟩, 10), (⟨"SchoolOnRaftModel", "spell", "(IIIIIIIII)V"⟩, 49), (⟨"SchoolOnRaftModel", "isLesson", "(I)Z"⟩, 49), (⟨"SchoolOnRaftModel", "isChild", "(I)Z"⟩, 49), (⟨"SchoolOnRaftModel", "times", "(I)I"⟩, 49), (⟨"SchoolOnRaftModel", "pointsOf", "(I)I"⟩, 49), (⟨"SchoolOnRaftModel", "read", "(II)I"⟩, 49), (⟨"SchoolOnRaftModel", "next", "()V"⟩, 49), (⟨"SchoolOnRaftModel", "byteAt", "(I)I"⟩, 49), (⟨"SchoolOnRaftModel", "isWord", "(IIIIIIII)Z"⟩, 49), (⟨"SchoolOnRaftModel", "isLetter", "(II)Z"⟩, 49), (⟨"SchoolOnRaftModel", "part", "(Z)I"⟩, 49), (⟨"SchoolOnRaftModel", "fail", "()V"⟩, 49), (⟨"SchoolOnRaftModel", "either", "()I"⟩, 49), (⟨"SchoolOnRaftModel", "both", "()I"⟩, 49)]
theorem lw_r3 : ∀ q ∈ lw_privs_3, lw_okq q := List.forall_mem_cons.mpr ⟨lw_p32, List.forall_mem_cons.mpr ⟨lw_p33, List.forall_mem_cons.mpr ⟨lw_p34, List.forall_mem_cons.mpr ⟨lw_p35, List.forall_mem_cons.mpr ⟨lw_p36, List.forall_mem_cons.mpr ⟨lw_p37, List.forall_mem_cons.mpr ⟨lw_p38, List.forall_mem_cons.mpr ⟨lw_p39, List.forall_mem_cons.mpr ⟨lw_p40, List.forall_mem_cons.mpr ⟨lw_p41, List.forall_mem_cons.mpr ⟨lw_p42, List.forall_mem_cons.mpr ⟨lw_p43, List.forall_mem_cons.mpr ⟨lw_p44, List.forall_mem_cons.mpr ⟨lw_p45, List.forall_mem_cons.mpr ⟨lw_p46, List.forall_mem_cons.mpr ⟨lw_p47, fun _ h => absurd h List.not_mem_nil⟩⟩⟩⟩⟩⟩⟩⟩⟩⟩⟩⟩⟩⟩⟩⟩
theorem lw_p48 : lw_okq (⟨"SchoolOnRaftModel", "not", "()I"⟩, 49) := ⟨⟨by decide +kernel, by decide +kernel⟩, List.mem_of_getElem? (i := 856) (by decide +kernel), List.mem_of_getElem? (i := 1113) (by decide +kernel), List.mem_of_getElem? (i := 1114) (by decide +kernel)⟩
theorem lw_p49 : lw_okq (⟨"SchoolOnRaftModel", "opens", "()Z"⟩, 49) := ⟨⟨by decide +kernel, by decide +kernel⟩, List.mem_of_getElem? (i := 856) (by decide +kernel), List.mem_of_getElem? (i := 1117) (by decide +kernel), List.mem_of_getElem? (i := 1118) (by decide +kernel)⟩
theorem lw_p50 : lw_okq (⟨"SchoolOnRaftModel", "added", "()I"⟩, 49) := ⟨⟨by decide +kernel, by decide +kernel⟩, List.mem_of_getElem? (i := 856) (by decide +kernel), List.mem_of_getElem? (i := 1121) (by decide +kernel), List.mem_of_getElem? (i := 1122) (by decide +kernel)⟩
theorem lw_p51 : lw_okq (⟨"SchoolOnRaftModel", "term", "()I"⟩, 49) := ⟨⟨by decide +kernel, by decide +kernel⟩, List.mem_of_getElem? (i := 856) (by decide +kernel), List.mem_of_getElem? (i := 1125) (by decide +kernel), List.mem_of_getElem? (i := 1126) (by decide +kernel)⟩
theorem lw_p52 : lw_okq (⟨"SchoolOnRaftModel", "atom", "()I"⟩, 49) := ⟨⟨by decide +kernel, by decide +kernel⟩, List.mem_of_getElem? (i := 856) (by decide +kernel), List.mem_of_getElem? (i := 1129) (by decide +kernel), List.mem_of_getElem? (i := 1130) (by decide +kernel)⟩
theorem lw_p53 : lw_okq (⟨"SchoolOnRaftModel", "isSign", "(I)Z"⟩, 49) := ⟨⟨by decide +kernel, by decide +kernel⟩, List.mem_of_getElem? (i := 856) (by decide +kernel), List.mem_of_getElem? (i := 1133) (by decide +kernel), List.mem_of_getElem? (i := 1134) (by decide +kernel)⟩
theorem lw_p54 : lw_okq (⟨"SchoolOnRaftModel", "name", "()I"⟩, 49) := ⟨⟨by decide +kernel, by decide +kernel⟩, List.mem_of_getElem? (i := 856) (by decide +kernel), List.mem_of_getElem? (i := 1137) (by decide +kernel), List.mem_of_getElem? (i := 1138) (by decide +kernel)⟩
theorem lw_p55 : lw_okq (⟨"SchoolOnRaftModel", "forgets", "()V"⟩, 49) := ⟨⟨by decide +kernel, by decide +kernel⟩, List.mem_of_getElem? (i := 856) (by decide +kernel), List.mem_of_getElem? (i := 1151) (by decide +kernel), List.mem_of_getElem? (i := 1152) (by decide +kernel)⟩
theorem lw_p56 : lw_okq (⟨"SchoolOnRaftModel", "takesPlan", "()V"⟩, 49) := ⟨⟨by decide +kernel, by decide +kernel⟩, List.mem_of_getElem? (i := 856) (by decide +kernel), List.mem_of_getElem? (i := 1155) (by decide +kernel), List.mem_of_getElem? (i := 1156) (by decide +kernel)⟩
theorem lw_p57 : lw_okq (⟨"SchoolOnRaftModel", "spring", "(III)V"⟩, 49) := ⟨⟨by decide +kernel, by decide +kernel⟩, List.mem_of_getElem? (i := 856) (by decide +kernel), List.mem_of_getElem? (i := 1159) (by decide +kernel), List.mem_of_getElem? (i := 1160) (by decide +kernel)⟩
theorem lw_p58 : lw_okq (⟨"SchoolOnRaftModel", "begins", "()V"⟩, 49) := ⟨⟨by decide +kernel, by decide +kernel⟩, List.mem_of_getElem? (i := 856) (by decide +kernel), List.mem_of_getElem? (i := 1163) (by decide +kernel), List.mem_of_getElem? (i := 1164) (by decide +kernel)⟩
theorem lw_p59 : lw_okq (⟨"SchoolOnRaftModel", "passes", "(IIIZ)V"⟩, 49) := ⟨⟨by decide +kernel, by decide +kernel⟩, List.mem_of_getElem? (i := 856) (by decide +kernel), List.mem_of_getElem? (i := 1167) (by decide +kernel), List.mem_of_getElem? (i := 1168) (by decide +kernel)⟩
theorem lw_p60 : lw_okq (⟨"SchoolOnRaftModel", "hasBy", "(II)I"⟩, 49) := ⟨⟨by decide +kernel, by decide +kernel⟩, List.mem_of_getElem? (i := 856) (by decide +kernel), List.mem_of_getElem? (i := 1171) (by decide +kernel), List.mem_of_getElem? (i := 1172) (by decide +kernel)⟩
theorem lw_p61 : lw_okq (⟨"SchoolOnRaftModel", "keeps", "(II)Z"⟩, 49) := ⟨⟨by decide +kernel, by decide +kernel⟩, List.mem_of_getElem? (i := 856) (by decide +kernel), List.mem_of_getElem? (i := 1175) (by decide +kernel), List.mem_of_getElem? (i := 1176) (by decide +kernel)⟩
theorem lw_p62 : lw_okq (⟨"SchoolOnRaftModel", "hears", "(IIIII)Z"⟩, 49) := ⟨⟨by decide +kernel, by decide +kernel⟩, List.mem_of_getElem? (i := 856) (by decide +kernel), List.mem_of_getElem? (i := 1182) (by decide +kernel), List.mem_of_getElem? (i := 1183) (by decide +kernel)⟩
theorem lw_p63 : lw_okq (⟨"SchoolOnRaftModel", "says", "(IIIIII)I"⟩, 49) := ⟨⟨by decide +kernel, by decide +kernel⟩, List.mem_of_getElem? (i := 856) (by decide +kernel), List.mem_of_getElem? (i := 1186) (by decide +kernel), List.mem_of_getElem? (i := 1187) (by decide +kernel)⟩
def lw_privs_4 : List (MethodName × Nat) := [(⟨"SchoolOnRaftModel", "not", "()I"⟩, 49), (⟨"SchoolOnRaftModel", "opens", "()Z"⟩, 49), (⟨"SchoolOnRaftModel", "added", "()I"⟩, 49), (⟨"SchoolOnRaftModel", "term", "()I"⟩, 49), (⟨"SchoolOnRaftModel", "atom", "()I"⟩, 49), (⟨"SchoolOnRaftModel", "isSign", "(I)Z"⟩, 49), (⟨"SchoolOnRaftModel", "name", "()I"⟩, 49), (⟨"SchoolOnRaftModel", "forgets", "()V"⟩, 49), (⟨"SchoolOnRaftModel", "takesPlan", "()V"⟩, 49), (⟨"SchoolOnRaftModel", "spring", "(III)V"⟩, 49), (⟨"SchoolOnRaftModel", "begins", "()V"⟩, 49), (⟨"SchoolOnRaftModel", "passes", "(IIIZ)V"⟩, 49), (⟨"SchoolOnRaftModel", "hasBy", "(II)I"⟩, 49), (⟨"SchoolOnRaftModel", "keeps", "(II)Z"⟩, 49), (⟨"SchoolOnRaftModel", "hears", "(IIIII)Z"⟩, 49), (⟨"SchoolOnRaftModel", "says", "(IIIIII)I"⟩, 49)]
theorem lw_r4 : ∀ q ∈ lw_privs_4, lw_okq q := List.forall_mem_cons.mpr ⟨lw_p48, List.forall_mem_cons.mpr ⟨lw_p49, List.forall_mem_cons.mpr ⟨lw_p50, List.forall_mem_cons.mpr ⟨lw_p51, List.forall_mem_cons.mpr ⟨lw_p52, List.forall_mem_cons.mpr ⟨lw_p53, List.forall_mem_cons.mpr ⟨lw_p54, List.forall_mem_cons.mpr ⟨lw_p55, List.forall_mem_cons.mpr ⟨lw_p56, List.forall_mem_cons.mpr ⟨lw_p57, List.forall_mem_cons.mpr ⟨lw_p58, List.forall_mem_cons.mpr ⟨lw_p59, List.forall_mem_cons.mpr ⟨lw_p60, List.forall_mem_cons.mpr ⟨lw_p61, List.forall_mem_cons.mpr ⟨lw_p62, List.forall_mem_cons.mpr ⟨lw_p63, fun _ h => absurd h List.not_mem_nil⟩⟩⟩⟩⟩⟩⟩⟩⟩⟩⟩⟩⟩⟩⟩⟩
theorem lw_p64 : lw_okq (⟨"SchoolOnRaftModel", "allPoints", "()I"⟩, 49) := ⟨⟨by decide +kernel, by decide +kernel⟩, List.mem_of_getElem? (i := 856) (by decide +kernel), List.mem_of_getElem? (i := 1198) (by decide +kernel), List.mem_of_getElem? (i := 1199) (by decide +kernel)⟩
theorem lw_p65 : lw_okq (⟨"SchoolOnRaftModel", "pointsBy", "(I)I"⟩, 49) := ⟨⟨by decide +kernel, by decide +kernel⟩, List.mem_of_getElem? (i := 856) (by decide +kernel), List.mem_of_getElem? (i := 1202) (by decide +kernel), List.mem_of_getElem? (i := 1203) (by decide +kernel)⟩
theorem lw_p66 : lw_okq (⟨"SchoolOnRaftModel", "endPoints", "(I)I"⟩, 49) := ⟨⟨by decide +kernel, by decide +kernel⟩, List.mem_of_getElem? (i := 856) (by decide +kernel), List.mem_of_getElem? (i := 1206) (by decide +kernel), List.mem_of_getElem? (i := 1207) (by decide +kernel)⟩
theorem lw_p67 : lw_okq (⟨"SchoolOnRaftModel", "worth", "(IIII)I"⟩, 49) := ⟨⟨by decide +kernel, by decide +kernel⟩, List.mem_of_getElem? (i := 856) (by decide +kernel), List.mem_of_getElem? (i := 1210) (by decide +kernel), List.mem_of_getElem? (i := 1211) (by decide +kernel)⟩
theorem lw_p68 : lw_okq (⟨"SchoolOnRaftModel", "seeks", "()V"⟩, 49) := ⟨⟨by decide +kernel, by decide +kernel⟩, List.mem_of_getElem? (i := 856) (by decide +kernel), List.mem_of_getElem? (i := 1222) (by decide +kernel), List.mem_of_getElem? (i := 1223) (by decide +kernel)⟩
theorem lw_p69 : lw_okq (⟨"SchoolOnRaftModel", "adds", "(III)V"⟩, 49) := ⟨⟨by decide +kernel, by decide +kernel⟩, List.mem_of_getElem? (i := 856) (by decide +kernel), List.mem_of_getElem? (i := 1226) (by decide +kernel), List.mem_of_getElem? (i := 1227) (by decide +kernel)⟩
theorem lw_p70 : lw_okq (⟨"SchoolOnRaftModel", "changeAt", "(II)I"⟩, 49) := ⟨⟨by decide +kernel, by decide +kernel⟩, List.mem_of_getElem? (i := 856) (by decide +kernel), List.mem_of_getElem? (i := 1247) (by decide +kernel), List.mem_of_getElem? (i := 1248) (by decide +kernel)⟩
theorem lw_p71 : lw_okq (⟨"SchoolOnRaftModel", "examBad", "(II)I"⟩, 49) := ⟨⟨by decide +kernel, by decide +kernel⟩, List.mem_of_getElem? (i := 856) (by decide +kernel), List.mem_of_getElem? (i := 1255) (by decide +kernel), List.mem_of_getElem? (i := 1256) (by decide +kernel)⟩
theorem lw_p72 : lw_okq (⟨"SchoolOnRaftModel", "unlike", "(I)I"⟩, 49) := ⟨⟨by decide +kernel, by decide +kernel⟩, List.mem_of_getElem? (i := 856) (by decide +kernel), List.mem_of_getElem? (i := 1263) (by decide +kernel), List.mem_of_getElem? (i := 1264) (by decide +kernel)⟩
theorem lw_p73 : lw_okq (⟨"SchoolOnRaftModel", "allHave", "()I"⟩, 49) := ⟨⟨by decide +kernel, by decide +kernel⟩, List.mem_of_getElem? (i := 856) (by decide +kernel), List.mem_of_getElem? (i := 1275) (by decide +kernel), List.mem_of_getElem? (i := 1276) (by decide +kernel)⟩
theorem lw_p74 : lw_okq (⟨"SchoolOnRaftModel", "floods", "(II)V"⟩, 49) := ⟨⟨by decide +kernel, by decide +kernel⟩, List.mem_of_getElem? (i := 856) (by decide +kernel), List.mem_of_getElem? (i := 1287) (by decide +kernel), List.mem_of_getElem? (i := 1288) (by decide +kernel)⟩
def lw_privs_5 : List (MethodName × Nat) := [(⟨"SchoolOnRaftModel", "allPoints", "()I"⟩, 49), (⟨"SchoolOnRaftModel", "pointsBy", "(I)I"⟩, 49), (⟨"SchoolOnRaftModel", "endPoints", "(I)I"⟩, 49), (⟨"SchoolOnRaftModel", "worth", "(IIII)I"⟩, 49), (⟨"SchoolOnRaftModel", "seeks", "()V"⟩, 49), (⟨"SchoolOnRaftModel", "adds", "(III)V"⟩, 49), (⟨"SchoolOnRaftModel", "changeAt", "(II)I"⟩, 49), (⟨"SchoolOnRaftModel", "examBad", "(II)I"⟩, 49), (⟨"SchoolOnRaftModel", "unlike", "(I)I"⟩, 49), (⟨"SchoolOnRaftModel", "allHave", "()I"⟩, 49), (⟨"SchoolOnRaftModel", "floods", "(II)V"⟩, 49)]
theorem lw_r5 : ∀ q ∈ lw_privs_5, lw_okq q := List.forall_mem_cons.mpr ⟨lw_p64, List.forall_mem_cons.mpr ⟨lw_p65, List.forall_mem_cons.mpr ⟨lw_p66, List.forall_mem_cons.mpr ⟨lw_p67, List.forall_mem_cons.mpr ⟨lw_p68, List.forall_mem_cons.mpr ⟨lw_p69, List.forall_mem_cons.mpr ⟨lw_p70, List.forall_mem_cons.mpr ⟨lw_p71, List.forall_mem_cons.mpr ⟨lw_p72, List.forall_mem_cons.mpr ⟨lw_p73, List.forall_mem_cons.mpr ⟨lw_p74, fun _ h => absurd h List.not_mem_nil⟩⟩⟩⟩⟩⟩⟩⟩⟩⟩⟩
def lw_privs : List (MethodName × Nat) := lw_privs_1 ++ (lw_privs_2 ++ (lw_privs_3 ++ (lw_privs_4 ++ (lw_privs_5))))
def lw_tbl : List Cond := k2_sels lw_privs ++ tables_1
theorem lw_privs_ok : ∀ q ∈ lw_privs, lw_okq q := by
  show ∀ q ∈ lw_privs_1 ++ (lw_privs_2 ++ (lw_privs_3 ++ (lw_privs_4 ++ (lw_privs_5)))), lw_okq q
  exact List.forall_mem_append.mpr ⟨lw_r1, List.forall_mem_append.mpr ⟨lw_r2, List.forall_mem_append.mpr ⟨lw_r3, List.forall_mem_append.mpr ⟨lw_r4, lw_r5⟩⟩⟩⟩
-- ===== end of PART A; then your names; then what follows =====
end
section
/-! ===== BEGIN words of one list among another's, by their places ===== -/
theorem goodIn_r {big : List Cond} (ws : List Cond) (ps : List Nat) (hp : ws = ps.filterMap (fun i => big[i]?)) (h : ws.all goodWord = true) : GoodIn big ws := by
  intro w hw
  have h1 := List.all_eq_true.mp h w hw
  rw [hp] at hw
  obtain ⟨i, -, hi⟩ := List.mem_filterMap.mp hw
  have hm : w ∈ big := by first | exact List.mem_of_getElem? hi | exact List.getElem?_mem hi
  exact ⟨hm, good_of_word h1⟩
theorem goodIn_app {big a b : List Cond} (ha : GoodIn big a) (hb : GoodIn big b) : GoodIn big (a ++ b) := fun w h => (List.mem_append.mp h).elim (ha w) (hb w)
theorem goodIn_ca {big a b : List Cond} {c : Cond} (ha : GoodIn big (c :: a)) (hb : GoodIn big b) : GoodIn big (c :: (a ++ b)) := fun w h => (List.mem_cons.mp h).elim (fun e => ha w (List.mem_cons.mpr (Or.inl e))) (fun h => (List.mem_append.mp h).elim (fun h => ha w (List.mem_cons.mpr (Or.inr h))) (hb w))
theorem goodIn_sub {big ws : List Cond} (hm : ∀ w ∈ ws, w ∈ big) (h : ws.all goodWord = true) : GoodIn big ws := fun w hw => ⟨hm w hw, good_of_word (List.all_eq_true.mp h w hw)⟩
/-! ===== END ===== -/

/-- an array class over another array class, as the tables say it -/
def va_AOA (t : FieldType) (U : State) : Prop := (Cond.arrayOver (.array t)).before #[] U = true
theorem va_AOA.use {t : FieldType} {A : Array Value} {U : State} (h : va_AOA t U) : (Cond.arrayOver (.array t)).before A U = true := h
/-! ===== BEGIN new T[n][m]: the outer array a place, the inner ones among the pooled ===== -/
/-- f, but v at every address of l -/
def vr_up {α : Type} (f : Nat → α) (l : List Nat) (v : α) : Nat → α := fun a => if a ∈ l then v else f a
theorem vr_up_in {α : Type} {f : Nat → α} {l : List Nat} {v : α} {a : Nat} (h : a ∈ l) : vr_up f l v a = v := if_pos h
theorem vr_up_ne {α : Type} {f : Nat → α} {l : List Nat} {v : α} {a : Nat} (h : a ∉ l) : vr_up f l v a = f a := if_neg h
theorem vr_rows {L l : List Nat} {f : Nat → va_E} {e : va_E} (h : ∀ a, a ∈ l → a ∉ L) : va_pl L f ++ l.map (fun a => (a, e)) = va_pl (L ++ l) (vr_up f l e) := by
  unfold va_pl
  rw [List.map_append]
  congr 1
  · apply List.map_congr_left
    intro a ha
    rw [vr_up_ne (fun q => h a q ha)]
  · apply List.map_congr_left
    intro a ha
    rw [vr_up_in ha]
theorem vr_lay {X rows : va_W} {x : Nat × va_E} {pl : va_W} {D : va_G} {cl : List vw_C} {H : Heap} (hP : va_P D cl (((X ++ pl) ++ [x]) ++ rows) H) : va_P D cl ((X ++ [x]) ++ (pl ++ rows)) H := by
  rw [List.append_assoc (X ++ pl)] at hP
  have h := va_P.swap hP
  rw [← List.append_assoc X] at h
  have h2 := va_P.swap h
  rw [List.append_assoc (X ++ [x])] at h2
  exact h2
theorem vr_layD {X rows : va_W} {x : Nat × va_E} {pl : va_W} {A : Nat → Prop} (hD : va_D A (((X ++ pl) ++ [x]) ++ rows)) : va_D A ((X ++ [x]) ++ (pl ++ rows)) := by
  rw [List.append_assoc (X ++ pl)] at hD
  have h := va_D.swap hD
  rw [← List.append_assoc X] at h
  have h2 := va_D.swap h
  rw [List.append_assoc (X ++ [x])] at h2
  exact h2
theorem vr_outer (c : ClassId) (N h0 : Nat) : ∀ i : Nat, Jvm.Free.Multi.outerC c N h0 i = arrV c N (fun j => va_rf (if j < i then some (h0 + 1 + j) else none))
  | 0 => by
    show ({ cls := c, slots := Array.replicate N .null, vm := .none } : Cell) = _
    rw [arrV_new]
    refine congrArg (arrV c N) (funext fun j => ?_)
    simp [va_rf]
  | i + 1 => by
    show (Jvm.Free.Multi.outerC c N h0 i).setSlot i (.ref (h0 + 1 + i)) = _
    rw [vr_outer c N h0 i, arrV_store]
    refine congrArg (arrV c N) (funext fun j => ?_)
    by_cases e : j = i
    · subst e
      simp [updV, va_rf]
    · by_cases h : j < i
      · simp [updV, e, h, Nat.lt_succ_of_lt h]
      · simp [updV, e, h, show ¬ j < i + 1 by omega]
section VGM
variable {p : Program} {l : Launch} {e : Env} {R : Room} {s : State} {m : MethodId} {args : Array Value} {below : List Frame} {meth : Method} {c : Code} {H : Heap} {locs : List Loc} {cells slots : Nat} {Q : State → Prop}
variable {cc : ByteArray} {pc : Nat} {ls : Array Slot} {rest : List Value} {D : va_G} {cl : List vw_C} {A : Nat → Prop} {a : Nat} {tys : List (ClassId × FieldType)} {ws : va_W} {H0 : Heap}
theorem va_mna {X : va_W} {L : List Nat} {f : Nat → va_E} {cc : ByteArray} (hexec : p.tables.exec = Jvm.exec) (hb : c.code = cc) {own : String} {index : Nat} {ty : FieldType} {cy : ClassId} (hown : s.vm.findClass own = some m.cls) (hclink : (Cond.classLink own index ("[" ++ (FieldType.array ty).toString)).before args s = true) (hover : va_AOA ty s) (harr : (Cond.arrayClass ty).before args s = true) (hcy : s.vm.findClass (FieldType.array ty).toString = some cy)
    (hK : va_K D cl tys s) (hP : va_P D cl (X ++ va_pl L f) H) (hD : va_D A (X ++ va_pl L f)) (hS : va_S A H0 H locs) (hA : ∀ q, H0.size ≤ q → A q) {n k : Int32} {N' K' : Nat} {z : vp_A} (hn : ¬ n < 0) (hk : ¬ k < 0) (hN : n.toNatClampNeg = N') (hM : k.toNatClampNeg = K')
    (hb1 : N' * 4 ≤ 536870912) (hb2 : K' * componentBytes ty ≤ 536870912) (hb3 : K' ≤ 536870912) (hdf : fits ty (defaultValue ty) = true) (hdd : (defaultValue ty).isDefault = true) (hcells : cells + (1 + N') ≤ R.cells) (hslots : slots + (N' + N' * K') ≤ R.slots) (hz : ∀ c : ClassId, Jvm.Free.Multi.innerC c K' (defaultValue ty) = vp_cell c z) (hdg : decode cc pc = .ok (.multianewarray index 2, 4))
    (kk : ∀ (q : Nat) (r : Nat → Nat) (cA : ClassId) (H1 : Heap), (∀ i j : Nat, i < N' → j < N' → r i = r j → i = j) → (∀ i : Nat, i < N' → r i ∉ L) → va_K D cl (tys ++ [(cA, .array ty)]) s →
      va_P D cl ((X ++ [(q, .inl (cA, N', .inr (.inr (.inr (.inr (fun i => if i < N' then some (r i) else none))))))]) ++ va_pl (L ++ (List.range N').map r) (vr_up f ((List.range N').map r) (.inl (cy, z)))) H1 → va_D A ((X ++ [(q, .inl (cA, N', .inr (.inr (.inr (.inr (fun i => if i < N' then some (r i) else none))))))]) ++ va_pl (L ++ (List.range N').map r) (vr_up f ((List.range N').map r) (.inl (cy, z)))) → va_S A H0 H1 locs →
      W p l e R s m args below meth c H1 locs (cells + 1 + N') (slots + N' + N' * K') Q (F0 m (pc + 4) ls (.ref q :: rest))) : W p l e R s m args below meth c H locs cells slots Q (F0 m pc ls (.int k :: .int n :: rest)) := by
  subst hN
  subst hM
  intro T hT Xs
  obtain ⟨vm₁, cA, comp, -, fA, fC, hO, -, X', step⟩ := Xs.multianewarray2F hexec hown hclink (va_AOA.use hover) harr (g := F0 m pc ls (.int k :: .int n :: rest)) rfl (by rw [hb]; exact hdg) rfl hn hk hb1 hb2 hb3 hdf hdd hcells hslots
  have ec : some cy = some comp := hcy.symm.trans fC
  cases ec
  generalize hF : Jvm.Free.Multi.fill (T.setVm vm₁) cA cy n.toNatClampNeg k.toNatClampNeg (defaultValue ty) n.toNatClampNeg = F at X' step
  have hTh : (T.setVm vm₁).heap = H := hT
  obtain ⟨f1, f2, -, -⟩ := Jvm.Free.Multi.fill_facts (T.setVm vm₁) cA cy n.toNatClampNeg k.toNatClampNeg (defaultValue ty) n.toNatClampNeg
  rw [hF, hTh] at f1 f2
  have hold : ∀ x : Nat, x < H.size → F.heap[x]? = H[x]? := fun x hx => by
    have := Jvm.Free.Multi.fill_old (T.setVm vm₁) cA cy n.toNatClampNeg k.toNatClampNeg (defaultValue ty) (a := x) (by rw [hTh]; exact hx) n.toNatClampNeg
    rw [hF, hTh] at this
    exact this
  have hrow : ∀ j : Nat, j < n.toNatClampNeg → F.heap[H.size + 1 + j]? = some (vp_cell cy z) := fun j hj => by
    have := Jvm.Free.Multi.fill_inner (T.setVm vm₁) cA cy n.toNatClampNeg k.toNatClampNeg (defaultValue ty) n.toNatClampNeg j hj
    rw [hF, hTh, hz] at this
    exact this
  have hout : Jvm.Free.Multi.outerC cA n.toNatClampNeg H.size n.toNatClampNeg = vp_cell cA (n.toNatClampNeg, .inr (.inr (.inr (.inr (fun i => if i < n.toNatClampNeg then some (H.size + 1 + i) else none))))) := by
    rw [vp_cell_q]
    exact vr_outer cA n.toNatClampNeg H.size n.toNatClampNeg
  rw [hout] at f2
  have hlt : ∀ a, a ∈ L → a < H.size := fun a ha => by
    obtain ⟨k9, hk9⟩ := va_pl_get (X := X) (f := f) ha
    exact (hP k9 _ hk9).lt
  have hnl : ∀ i : Nat, i < n.toNatClampNeg → H.size + 1 + i ∉ L := fun i _ h => by
    have := hlt _ h
    omega
  have hnm : ∀ a, a ∈ (List.range n.toNatClampNeg).map (fun i => H.size + 1 + i) → a ∉ L := fun a ha h => by
    obtain ⟨i, -, rfl⟩ := List.mem_map.mp ha
    have := hlt _ h
    omega
  have hP0 : va_P D cl (X ++ va_pl L f) F.heap := hP.kept (fun k9 x hx => hold x.1 ((hP k9 x hx).lt))
  have hP1 : va_P D cl ((X ++ va_pl L f) ++ [(H.size, .inl (cA, n.toNatClampNeg, .inr (.inr (.inr (.inr (fun i => if i < n.toNatClampNeg then some (H.size + 1 + i) else none))))))]) F.heap := hP0.app (fun k9 x hx => by
    have h0 : k9 < 1 := (List.getElem?_eq_some_iff.mp hx).1
    rw [show k9 = 0 by omega] at hx
    cases hx
    exact f2)
  have hP2 : va_P D cl (((X ++ va_pl L f) ++ [(H.size, .inl (cA, n.toNatClampNeg, .inr (.inr (.inr (.inr (fun i => if i < n.toNatClampNeg then some (H.size + 1 + i) else none))))))]) ++ ((List.range n.toNatClampNeg).map (fun i => H.size + 1 + i)).map (fun a => (a, .inl (cy, z)))) F.heap := hP1.app (fun k9 x hx => by
    obtain ⟨a, ha, rfl⟩ := List.mem_map.mp (List.mem_of_getElem? hx)
    obtain ⟨i, hi, rfl⟩ := List.mem_map.mp ha
    exact hrow i (List.mem_range.mp hi))
  have hD2 : va_D A (((X ++ va_pl L f) ++ [(H.size, .inl (cA, n.toNatClampNeg, .inr (.inr (.inr (.inr (fun i => if i < n.toNatClampNeg then some (H.size + 1 + i) else none))))))]) ++ ((List.range n.toNatClampNeg).map (fun i => H.size + 1 + i)).map (fun a => (a, .inl (cy, z)))) := by
    have hD1 := hD.push (e := .inl (cA, n.toNatClampNeg, .inr (.inr (.inr (.inr (fun i => if i < n.toNatClampNeg then some (H.size + 1 + i) else none)))))) hP rfl (hA _ hS.1)
    generalize hW1 : (X ++ va_pl L f) ++ [(H.size, .inl (cA, n.toNatClampNeg, .inr (.inr (.inr (.inr (fun i => if i < n.toNatClampNeg then some (H.size + 1 + i) else none))))))] = W1 at hD1 hP1 ⊢
    have hle : ∀ (k9 : Nat) (x : Nat × va_E), W1[k9]? = some x → x.1 ≤ H.size := fun k9 x hx => by
      rw [← hW1] at hx
      by_cases hl : k9 < (X ++ va_pl L f).length
      · rw [List.getElem?_append_left hl] at hx
        exact Nat.le_of_lt ((hP k9 x hx).lt)
      · rw [List.getElem?_append_right (by omega)] at hx
        have h0 : k9 - (X ++ va_pl L f).length < 1 := (List.getElem?_eq_some_iff.mp hx).1
        rw [show k9 - (X ++ va_pl L f).length = 0 by omega] at hx
        cases hx
        exact Nat.le_refl _
    have hr : ∀ (k9 : Nat) (x : Nat × va_E), (((List.range n.toNatClampNeg).map (fun i => H.size + 1 + i)).map (fun a => ((a, .inl (cy, z)) : Nat × va_E)))[k9]? = some x → x.1 = H.size + 1 + k9 := fun k9 x hx => by
      rw [List.getElem?_map, List.getElem?_map] at hx
      by_cases h9 : k9 < n.toNatClampNeg
      · rw [List.getElem?_range h9] at hx
        cases hx
        rfl
      · have hn0 : (List.range n.toNatClampNeg)[k9]? = none := List.getElem?_eq_none (by rw [List.length_range]; omega)
        rw [hn0] at hx
        cases hx
    refine ⟨fun i j x y hi hj hxy => ?_, fun k9 x hx => ?_⟩
    · by_cases h1 : i < W1.length <;> by_cases h2 : j < W1.length
      · rw [List.getElem?_append_left h1] at hi
        rw [List.getElem?_append_left h2] at hj
        exact hD1.1 i j x y hi hj hxy
      · rw [List.getElem?_append_left h1] at hi
        rw [List.getElem?_append_right (by omega)] at hj
        have := hle _ _ hi
        have := hr _ _ hj
        omega
      · rw [List.getElem?_append_right (by omega)] at hi
        rw [List.getElem?_append_left h2] at hj
        have := hle _ _ hj
        have := hr _ _ hi
        omega
      · rw [List.getElem?_append_right (by omega)] at hi hj
        have := hr _ _ hi
        have := hr _ _ hj
        omega
    · by_cases h1 : k9 < W1.length
      · rw [List.getElem?_append_left h1] at hx
        exact hD1.2 k9 x hx
      · rw [List.getElem?_append_right (by omega)] at hx
        have := hr _ _ hx
        exact hA _ (by have := hS.1; omega)
  have hAr : ArrOfT s cA (.array ty) := fun N9 z9 => by
    obtain ⟨-, k9, hk9, cm9, hkk9⟩ := (hO 0 0 0).1
    exact ⟨(fun q hq => by cases hq), k9, hk9, cm9, hkk9⟩
  have hK2 : va_K D cl (tys ++ [(cA, .array ty)]) s := ⟨hK.1, fun k9 x hx => by
    by_cases hl : k9 < tys.length
    · rw [List.getElem?_append_left hl] at hx
      exact hK.2 k9 x hx
    · rw [List.getElem?_append_right (by omega)] at hx
      have h0 : k9 - tys.length < 1 := (List.getElem?_eq_some_iff.mp hx).1
      rw [show k9 - tys.length = 0 by omega] at hx
      cases hx
      exact ⟨hAr, fA⟩⟩
  obtain ⟨t, a1, b1⟩ := kk H.size (fun i => H.size + 1 + i) cA F.heap (fun i j _ _ h => by have h9 : H.size + 1 + i = H.size + 1 + j := h; omega) hnl hK2 (by rw [← vr_rows hnm]; exact vr_lay hP2) (by rw [← vr_rows hnm]; exact vr_layD hD2) ⟨by rw [f1]; have := hS.1; omega, fun x h1 h2 => (hold x (Nat.lt_of_lt_of_le h1 hS.1)).trans (hS.2.1 x h1 h2), hS.2.2⟩ F rfl X'
  refine ⟨t, step t ?_, b1⟩
  have e : T.heap.size = H.size := by rw [hT]
  rw [e]
  exact a1
end VGM
/-! ===== END ===== -/

/-! ===== BEGIN printed: names, fields, word lists, decode rows ===== -/
def RX0 : String := "SchoolOnRaft$Board"
def TX0 : u_T := fun k => match k with
  | 0 => ("SchoolOnRaft$Board", "lessonCount", "I", false)
  | 1 => ("SchoolOnRaft$Board", "childCount", "I", false)
  | 2 => ("SchoolOnRaft$Board", "rule", "I", false)
  | 3 => ("SchoolOnRaft$Board", "kinds", "[I", true)
  | 4 => ("SchoolOnRaft$Board", "numbers", "[I", true)
  | 5 => ("SchoolOnRaft$Board", "needs", "[I", true)
  | 6 => ("SchoolOnRaft$Board", "ons", "[I", true)
  | 7 => ("SchoolOnRaft$Board", "offs", "[I", true)
  | 8 => ("SchoolOnRaft$Board", "ages", "[I", true)
  | 9 => ("SchoolOnRaft$Board", "plan", "[I", true)
  | _ => ("SchoolOnRaft$Board", "other", "[I", true)
def tyX0 : Nat → FieldType := fun k => match k with
  | 0 => .int
  | 1 => .int
  | 2 => .int
  | 3 => .array .int
  | 4 => .array .int
  | 5 => .array .int
  | 6 => .array .int
  | 7 => .array .int
  | 8 => .array .int
  | 9 => .array .int
  | _ => .array .int
abbrev wsX00 : List Cond := u_ws RX0 TX0 11
theorem nmX0 : ∀ a, a < 11 → ∀ b, b < 11 → a ≠ b → (TX0 a).2.1 ≠ (TX0 b).2.1 := by decide +kernel
theorem tyX0_ok : ∀ k, k < 11 → parseFieldDescriptor (TX0 k).2.2.1 = some (tyX0 k) := by decide +kernel
abbrev cX0_init : ByteArray := prog_2_method_1_code
def yX0_init : MethodName := ⟨RX0, "<init>", "()V"⟩
abbrev cX0_addLesson : ByteArray := prog_2_method_2_code
def yX0_addLesson : MethodName := ⟨RX0, "addLesson", "(III)I"⟩
abbrev cX0_addChild : ByteArray := prog_2_method_3_code
def yX0_addChild : MethodName := ⟨RX0, "addChild", "(III)I"⟩
abbrev cX0_become : ByteArray := prog_2_method_4_code
def yX0_become : MethodName := ⟨RX0, "become", "(LSchoolOnRaft$Board;)V"⟩
def RX1 : String := "SchoolOnRaft$HardKind"
def TX1 : u_T := fun k => match k with
  | _ => ("", "", "", false)
def tyX1 : Nat → FieldType := fun k => match k with
  | _ => .int
abbrev wsX10 : List Cond := u_ws RX1 TX1 0
theorem nmX1 : ∀ a, a < 0 → ∀ b, b < 0 → a ≠ b → (TX1 a).2.1 ≠ (TX1 b).2.1 := by decide +kernel
theorem tyX1_ok : ∀ k, k < 0 → parseFieldDescriptor (TX1 k).2.2.1 = some (tyX1 k) := by decide +kernel
abbrev cX1_init : ByteArray := prog_3_method_1_code
def yX1_init : MethodName := ⟨RX1, "<init>", "()V"⟩
abbrev cX1_times : ByteArray := prog_3_method_2_code
def yX1_times : MethodName := ⟨RX1, "times", "(I)I"⟩
abbrev cX1_keeps : ByteArray := prog_3_method_3_code
def yX1_keeps : MethodName := ⟨RX1, "keeps", "(II)Z"⟩
abbrev cX1_value : ByteArray := prog_3_method_4_code
def yX1_value : MethodName := ⟨RX1, "value", "(I)I"⟩
def RX2 : String := "SchoolOnRaft$Kind"
def TX2 : u_T := fun k => match k with
  | _ => ("", "", "", false)
def tyX2 : Nat → FieldType := fun k => match k with
  | _ => .int
abbrev wsX20 : List Cond := u_ws RX2 TX2 0
theorem nmX2 : ∀ a, a < 0 → ∀ b, b < 0 → a ≠ b → (TX2 a).2.1 ≠ (TX2 b).2.1 := by decide +kernel
theorem tyX2_ok : ∀ k, k < 0 → parseFieldDescriptor (TX2 k).2.2.1 = some (tyX2 k) := by decide +kernel
abbrev cX2_init : ByteArray := prog_4_method_1_code
def yX2_init : MethodName := ⟨RX2, "<init>", "()V"⟩
abbrev cX2_times : ByteArray := prog_4_method_2_code
def yX2_times : MethodName := ⟨RX2, "times", "(I)I"⟩
abbrev cX2_keeps : ByteArray := prog_4_method_3_code
def yX2_keeps : MethodName := ⟨RX2, "keeps", "(II)Z"⟩
abbrev cX2_value : ByteArray := prog_4_method_4_code
def yX2_value : MethodName := ⟨RX2, "value", "(I)I"⟩
def RX3 : String := "SchoolOnRaft$LightKind"
def TX3 : u_T := fun k => match k with
  | _ => ("", "", "", false)
def tyX3 : Nat → FieldType := fun k => match k with
  | _ => .int
abbrev wsX30 : List Cond := u_ws RX3 TX3 0
theorem nmX3 : ∀ a, a < 0 → ∀ b, b < 0 → a ≠ b → (TX3 a).2.1 ≠ (TX3 b).2.1 := by decide +kernel
theorem tyX3_ok : ∀ k, k < 0 → parseFieldDescriptor (TX3 k).2.2.1 = some (tyX3 k) := by decide +kernel
abbrev cX3_init : ByteArray := prog_5_method_1_code
def yX3_init : MethodName := ⟨RX3, "<init>", "()V"⟩
abbrev cX3_keeps : ByteArray := prog_5_method_2_code
def yX3_keeps : MethodName := ⟨RX3, "keeps", "(II)Z"⟩
abbrev cX3_value : ByteArray := prog_5_method_3_code
def yX3_value : MethodName := ⟨RX3, "value", "(I)I"⟩
def RX4 : String := "SchoolOnRaft$LongKind"
def TX4 : u_T := fun k => match k with
  | _ => ("", "", "", false)
def tyX4 : Nat → FieldType := fun k => match k with
  | _ => .int
abbrev wsX40 : List Cond := u_ws RX4 TX4 0
theorem nmX4 : ∀ a, a < 0 → ∀ b, b < 0 → a ≠ b → (TX4 a).2.1 ≠ (TX4 b).2.1 := by decide +kernel
theorem tyX4_ok : ∀ k, k < 0 → parseFieldDescriptor (TX4 k).2.2.1 = some (tyX4 k) := by decide +kernel
abbrev cX4_init : ByteArray := prog_6_method_1_code
def yX4_init : MethodName := ⟨RX4, "<init>", "()V"⟩
abbrev cX4_times : ByteArray := prog_6_method_2_code
def yX4_times : MethodName := ⟨RX4, "times", "(I)I"⟩
abbrev cX4_value : ByteArray := prog_6_method_3_code
def yX4_value : MethodName := ⟨RX4, "value", "(I)I"⟩
def RX5 : String := "SchoolOnRaft$ProofKind"
def TX5 : u_T := fun k => match k with
  | _ => ("", "", "", false)
def tyX5 : Nat → FieldType := fun k => match k with
  | _ => .int
abbrev wsX50 : List Cond := u_ws RX5 TX5 0
theorem nmX5 : ∀ a, a < 0 → ∀ b, b < 0 → a ≠ b → (TX5 a).2.1 ≠ (TX5 b).2.1 := by decide +kernel
theorem tyX5_ok : ∀ k, k < 0 → parseFieldDescriptor (TX5 k).2.2.1 = some (tyX5 k) := by decide +kernel
abbrev cX5_init : ByteArray := prog_7_method_1_code
def yX5_init : MethodName := ⟨RX5, "<init>", "()V"⟩
abbrev cX5_value : ByteArray := prog_7_method_2_code
def yX5_value : MethodName := ⟨RX5, "value", "(I)I"⟩
def RX6 : String := "SchoolOnRaft$Reader"
def TX6 : u_T := fun k => match k with
  | 0 => ("SchoolOnRaft$Reader", "tape", "[I", true)
  | 1 => ("SchoolOnRaft$Reader", "size", "I", false)
  | 2 => ("SchoolOnRaft$Reader", "start", "I", false)
  | 3 => ("SchoolOnRaft$Reader", "place", "I", false)
  | 4 => ("SchoolOnRaft$Reader", "token", "I", false)
  | 5 => ("SchoolOnRaft$Reader", "code", "[I", true)
  | _ => ("SchoolOnRaft$Reader", "used", "I", false)
def tyX6 : Nat → FieldType := fun k => match k with
  | 0 => .array .int
  | 1 => .int
  | 2 => .int
  | 3 => .int
  | 4 => .int
  | 5 => .array .int
  | _ => .int
abbrev wsX60 : List Cond := u_ws RX6 TX6 7
theorem nmX6 : ∀ a, a < 7 → ∀ b, b < 7 → a ≠ b → (TX6 a).2.1 ≠ (TX6 b).2.1 := by decide +kernel
theorem tyX6_ok : ∀ k, k < 7 → parseFieldDescriptor (TX6 k).2.2.1 = some (tyX6 k) := by decide +kernel
abbrev cX6_init : ByteArray := prog_8_method_1_code
def yX6_init : MethodName := ⟨RX6, "<init>", "()V"⟩
abbrev cX6_read : ByteArray := prog_8_method_2_code
def yX6_read : MethodName := ⟨RX6, "read", "()LSchoolOnRaft$Text;"⟩
abbrev cX6_section : ByteArray := prog_8_method_3_code
def yX6_section : MethodName := ⟨RX6, "section", "(I)[I"⟩
abbrev cX6_either : ByteArray := prog_8_method_4_code
def yX6_either : MethodName := ⟨RX6, "either", "(I)Z"⟩
abbrev cX6_both : ByteArray := prog_8_method_5_code
def yX6_both : MethodName := ⟨RX6, "both", "(I)Z"⟩
abbrev cX6_denied : ByteArray := prog_8_method_6_code
def yX6_denied : MethodName := ⟨RX6, "denied", "(I)Z"⟩
abbrev cX6_compared : ByteArray := prog_8_method_7_code
def yX6_compared : MethodName := ⟨RX6, "compared", "(I)Z"⟩
abbrev cX6_sum : ByteArray := prog_8_method_8_code
def yX6_sum : MethodName := ⟨RX6, "sum", "(I)Z"⟩
abbrev cX6_term : ByteArray := prog_8_method_9_code
def yX6_term : MethodName := ⟨RX6, "term", "(I)Z"⟩
abbrev cX6_one : ByteArray := prog_8_method_10_code
def yX6_one : MethodName := ⟨RX6, "one", "(I)Z"⟩
abbrev cX6_write : ByteArray := prog_8_method_11_code
def yX6_write : MethodName := ⟨RX6, "write", "(I)V"⟩
abbrev cX6_advance : ByteArray := prog_8_method_12_code
def yX6_advance : MethodName := ⟨RX6, "advance", "()V"⟩
abbrev cX6_number : ByteArray := prog_8_method_13_code
def yX6_number : MethodName := ⟨RX6, "number", "()I"⟩
abbrev cX6_word : ByteArray := prog_8_method_14_code
def yX6_word : MethodName := ⟨RX6, "word", "()I"⟩
abbrev cX6_reads : ByteArray := prog_8_method_15_code
def yX6_reads : MethodName := ⟨RX6, "reads", "(Ljava/lang/String;)Z"⟩
abbrev cX6_sign : ByteArray := prog_8_method_16_code
def yX6_sign : MethodName := ⟨RX6, "sign", "(I)I"⟩
abbrev cX6_isDigit : ByteArray := prog_8_method_17_code
def yX6_isDigit : MethodName := ⟨RX6, "isDigit", "(I)Z"⟩
abbrev cX6_isLetter : ByteArray := prog_8_method_18_code
def yX6_isLetter : MethodName := ⟨RX6, "isLetter", "(I)Z"⟩
def RX7 : String := "SchoolOnRaft$Search"
def TX7 : u_T := fun k => match k with
  | 0 => ("SchoolOnRaft$Search", "row", "[I", true)
  | 1 => ("SchoolOnRaft$Search", "most", "I", false)
  | 2 => ("SchoolOnRaft$Search", "found", "Z", false)
  | 3 => ("SchoolOnRaft$Search", "tried", "[I", true)
  | 4 => ("SchoolOnRaft$Search", "memories", "[I", true)
  | 5 => ("SchoolOnRaft$Search", "hearing", "[I", true)
  | _ => ("SchoolOnRaft$Search", "gains", "[I", true)
def tyX7 : Nat → FieldType := fun k => match k with
  | 0 => .array .int
  | 1 => .int
  | 2 => .boolean
  | 3 => .array .int
  | 4 => .array .int
  | 5 => .array .int
  | _ => .array .int
abbrev wsX70 : List Cond := u_ws RX7 TX7 7
theorem nmX7 : ∀ a, a < 7 → ∀ b, b < 7 → a ≠ b → (TX7 a).2.1 ≠ (TX7 b).2.1 := by decide +kernel
theorem tyX7_ok : ∀ k, k < 7 → parseFieldDescriptor (TX7 k).2.2.1 = some (tyX7 k) := by decide +kernel
abbrev cX7_init : ByteArray := prog_9_method_1_code
def yX7_init : MethodName := ⟨RX7, "<init>", "()V"⟩
abbrev cX7_forget : ByteArray := prog_9_method_2_code
def yX7_forget : MethodName := ⟨RX7, "forget", "()V"⟩
abbrev cX7_find : ByteArray := prog_9_method_3_code
def yX7_find : MethodName := ⟨RX7, "find", "(LSchoolOnRaft$Spring;)V"⟩
abbrev cX7_visit : ByteArray := prog_9_method_4_code
def yX7_visit : MethodName := ⟨RX7, "visit", "(LSchoolOnRaft$Spring;I)V"⟩
abbrev cX7_step : ByteArray := prog_9_method_5_code
def yX7_step : MethodName := ⟨RX7, "step", "(LSchoolOnRaft$Spring;II)Z"⟩
abbrev cX7_listens : ByteArray := prog_9_method_6_code
def yX7_listens : MethodName := ⟨RX7, "listens", "(LSchoolOnRaft$Spring;IIII)Z"⟩
abbrev cX7_weigh : ByteArray := prog_9_method_7_code
def yX7_weigh : MethodName := ⟨RX7, "weigh", "(LSchoolOnRaft$Spring;)V"⟩
def RX8 : String := "SchoolOnRaft$SongKind"
def TX8 : u_T := fun k => match k with
  | _ => ("", "", "", false)
def tyX8 : Nat → FieldType := fun k => match k with
  | _ => .int
abbrev wsX80 : List Cond := u_ws RX8 TX8 0
theorem nmX8 : ∀ a, a < 0 → ∀ b, b < 0 → a ≠ b → (TX8 a).2.1 ≠ (TX8 b).2.1 := by decide +kernel
theorem tyX8_ok : ∀ k, k < 0 → parseFieldDescriptor (TX8 k).2.2.1 = some (tyX8 k) := by decide +kernel
abbrev cX8_init : ByteArray := prog_10_method_1_code
def yX8_init : MethodName := ⟨RX8, "<init>", "()V"⟩
abbrev cX8_times : ByteArray := prog_10_method_2_code
def yX8_times : MethodName := ⟨RX8, "times", "(I)I"⟩
abbrev cX8_keeps : ByteArray := prog_10_method_3_code
def yX8_keeps : MethodName := ⟨RX8, "keeps", "(II)Z"⟩
abbrev cX8_value : ByteArray := prog_10_method_4_code
def yX8_value : MethodName := ⟨RX8, "value", "(I)I"⟩
def RX9 : String := "SchoolOnRaft$Spring"
def TX9 : u_T := fun k => match k with
  | 0 => ("SchoolOnRaft$Spring", "now", "LSchoolOnRaft$Board;", true)
  | 1 => ("SchoolOnRaft$Spring", "texts", "[LSchoolOnRaft$Text;", true)
  | 2 => ("SchoolOnRaft$Spring", "textCount", "I", false)
  | 3 => ("SchoolOnRaft$Spring", "kinds", "[LSchoolOnRaft$Kind;", true)
  | 4 => ("SchoolOnRaft$Spring", "scene", "[I", true)
  | 5 => ("SchoolOnRaft$Spring", "stack", "[I", true)
  | _ => ("SchoolOnRaft$Spring", "first", "LSchoolOnRaft$Text;", true)
def tyX9 : Nat → FieldType := fun k => match k with
  | 0 => .object "SchoolOnRaft$Board"
  | 1 => .array (.object "SchoolOnRaft$Text")
  | 2 => .int
  | 3 => .array (.object "SchoolOnRaft$Kind")
  | 4 => .array .int
  | 5 => .array .int
  | _ => .object "SchoolOnRaft$Text"
abbrev wsX90 : List Cond := u_ws RX9 TX9 7
theorem nmX9 : ∀ a, a < 7 → ∀ b, b < 7 → a ≠ b → (TX9 a).2.1 ≠ (TX9 b).2.1 := by decide +kernel
theorem tyX9_ok : ∀ k, k < 7 → parseFieldDescriptor (TX9 k).2.2.1 = some (tyX9 k) := by decide +kernel
abbrev cX9_init : ByteArray := prog_11_method_1_code
def yX9_init : MethodName := ⟨RX9, "<init>", "()V"⟩
abbrev cX9_timesHeard : ByteArray := prog_11_method_2_code
def yX9_timesHeard : MethodName := ⟨RX9, "timesHeard", "(II)I"⟩
abbrev cX9_lastUnderstood : ByteArray := prog_11_method_3_code
def yX9_lastUnderstood : MethodName := ⟨RX9, "lastUnderstood", "(II)I"⟩
abbrev cX9_kindOf : ByteArray := prog_11_method_4_code
def yX9_kindOf : MethodName := ⟨RX9, "kindOf", "(I)LSchoolOnRaft$Kind;"⟩
abbrev cX9_owned : ByteArray := prog_11_method_5_code
def yX9_owned : MethodName := ⟨RX9, "owned", "(II)I"⟩
abbrev cX9_hears : ByteArray := prog_11_method_6_code
def yX9_hears : MethodName := ⟨RX9, "hears", "(IIIII)Z"⟩
abbrev cX9_gain : ByteArray := prog_11_method_7_code
def yX9_gain : MethodName := ⟨RX9, "gain", "(IIII)I"⟩
abbrev cX9_runCost : ByteArray := prog_11_method_8_code
def yX9_runCost : MethodName := ⟨RX9, "runCost", "(II)I"⟩
abbrev cX9_listened : ByteArray := prog_11_method_9_code
def yX9_listened : MethodName := ⟨RX9, "listened", "(III)I"⟩
abbrev cX9_memoryOf : ByteArray := prog_11_method_10_code
def yX9_memoryOf : MethodName := ⟨RX9, "memoryOf", "(III[I)I"⟩
abbrev cX9_ownedBehind : ByteArray := prog_11_method_11_code
def yX9_ownedBehind : MethodName := ⟨RX9, "ownedBehind", "(IIII)I"⟩
abbrev cX9_pointsOf : ByteArray := prog_11_method_12_code
def yX9_pointsOf : MethodName := ⟨RX9, "pointsOf", "(I[I)I"⟩
abbrev cX9_firstUnlike : ByteArray := prog_11_method_13_code
def yX9_firstUnlike : MethodName := ⟨RX9, "firstUnlike", "([IIII)I"⟩
abbrev cX9_ruleText : ByteArray := prog_11_method_14_code
def yX9_ruleText : MethodName := ⟨RX9, "ruleText", "()LSchoolOnRaft$Text;"⟩
abbrev cX9_stage : ByteArray := prog_11_method_15_code
def yX9_stage : MethodName := ⟨RX9, "stage", "(IIIII)V"⟩
abbrev cX9_worked : ByteArray := prog_11_method_16_code
def yX9_worked : MethodName := ⟨RX9, "worked", "([I)I"⟩
abbrev cX9_joined : ByteArray := prog_11_method_17_code
def yX9_joined : MethodName := ⟨RX9, "joined", "(III)I"⟩
def RX10 : String := "SchoolOnRaft$Text"
def TX10 : u_T := fun k => match k with
  | 0 => ("SchoolOnRaft$Text", "hears", "[I", true)
  | 1 => ("SchoolOnRaft$Text", "worth", "[I", true)
  | _ => ("SchoolOnRaft$Text", "runs", "[I", true)
def tyX10 : Nat → FieldType := fun k => match k with
  | 0 => .array .int
  | 1 => .array .int
  | _ => .array .int
abbrev wsX100 : List Cond := u_ws RX10 TX10 3
theorem nmX10 : ∀ a, a < 3 → ∀ b, b < 3 → a ≠ b → (TX10 a).2.1 ≠ (TX10 b).2.1 := by decide +kernel
theorem tyX10_ok : ∀ k, k < 3 → parseFieldDescriptor (TX10 k).2.2.1 = some (tyX10 k) := by decide +kernel
abbrev cX10_init : ByteArray := prog_12_method_1_code
def yX10_init : MethodName := ⟨RX10, "<init>", "([I[I[I)V"⟩
def RX11 : String := "SchoolOnRaft"
def TX11 : u_T := fun k => match k with
  | 0 => ("SchoolOnRaft", "spring", "LSchoolOnRaft$Spring;", true)
  | 1 => ("SchoolOnRaft", "search", "LSchoolOnRaft$Search;", true)
  | 2 => ("SchoolOnRaft", "reader", "LSchoolOnRaft$Reader;", true)
  | 3 => ("SchoolOnRaft", "kept", "LSchoolOnRaft$Board;", true)
  | 4 => ("SchoolOnRaft", "imaged", "Z", false)
  | 5 => ("SchoolOnRaft", "draft", "[I", true)
  | 6 => ("SchoolOnRaft", "ends", "[I", true)
  | 7 => ("SchoolOnRaft", "items", "[[I", true)
  | 8 => ("SchoolOnRaft", "sizes", "[I", true)
  | _ => ("SchoolOnRaft", "sorts", "[I", true)
def tyX11 : Nat → FieldType := fun k => match k with
  | 0 => .object "SchoolOnRaft$Spring"
  | 1 => .object "SchoolOnRaft$Search"
  | 2 => .object "SchoolOnRaft$Reader"
  | 3 => .object "SchoolOnRaft$Board"
  | 4 => .boolean
  | 5 => .array .int
  | 6 => .array .int
  | 7 => .array (.array .int)
  | 8 => .array .int
  | _ => .array .int
abbrev wsX110 : List Cond := u_ws RX11 TX11 10
theorem nmX11 : ∀ a, a < 10 → ∀ b, b < 10 → a ≠ b → (TX11 a).2.1 ≠ (TX11 b).2.1 := by decide +kernel
theorem tyX11_ok : ∀ k, k < 10 → parseFieldDescriptor (TX11 k).2.2.1 = some (tyX11 k) := by decide +kernel
abbrev cX11_init : ByteArray := prog_1_method_1_code
def yX11_init : MethodName := ⟨RX11, "<init>", "()V"⟩
abbrev cX11_lesson : ByteArray := prog_1_method_2_code
def yX11_lesson : MethodName := ⟨RX11, "lesson", "(III)I"⟩
abbrev cX11_child : ByteArray := prog_1_method_3_code
def yX11_child : MethodName := ⟨RX11, "child", "(II)I"⟩
abbrev cX11_set : ByteArray := prog_1_method_4_code
def yX11_set : MethodName := ⟨RX11, "set", "(III)I"⟩
abbrev cX11_told : ByteArray := prog_1_method_5_code
def yX11_told : MethodName := ⟨RX11, "told", "(II)I"⟩
abbrev cX11_give : ByteArray := prog_1_method_6_code
def yX11_give : MethodName := ⟨RX11, "give", "(III)I"⟩
abbrev cX11_given : ByteArray := prog_1_method_7_code
def yX11_given : MethodName := ⟨RX11, "given", "(II)I"⟩
abbrev cX11_feed : ByteArray := prog_1_method_8_code
def yX11_feed : MethodName := ⟨RX11, "feed", "(I)I"⟩
abbrev cX11_text : ByteArray := prog_1_method_9_code
def yX11_text : MethodName := ⟨RX11, "text", "()I"⟩
abbrev cX11_force : ByteArray := prog_1_method_10_code
def yX11_force : MethodName := ⟨RX11, "force", "(I)I"⟩
abbrev cX11_has : ByteArray := prog_1_method_11_code
def yX11_has : MethodName := ⟨RX11, "has", "(II)I"⟩
abbrev cX11_heard : ByteArray := prog_1_method_12_code
def yX11_heard : MethodName := ⟨RX11, "heard", "(III)I"⟩
abbrev cX11_points : ByteArray := prog_1_method_13_code
def yX11_points : MethodName := ⟨RX11, "points", "(I)I"⟩
abbrev cX11_best : ByteArray := prog_1_method_14_code
def yX11_best : MethodName := ⟨RX11, "best", "(I)I"⟩
abbrev cX11_lay : ByteArray := prog_1_method_15_code
def yX11_lay : MethodName := ⟨RX11, "lay", "()I"⟩
abbrev cX11_run : ByteArray := prog_1_method_16_code
def yX11_run : MethodName := ⟨RX11, "run", "(III)I"⟩
abbrev cX11_twice : ByteArray := prog_1_method_17_code
def yX11_twice : MethodName := ⟨RX11, "twice", "(II)I"⟩
abbrev cX11_change : ByteArray := prog_1_method_18_code
def yX11_change : MethodName := ⟨RX11, "change", "(II)I"⟩
abbrev cX11_exam : ByteArray := prog_1_method_19_code
def yX11_exam : MethodName := ⟨RX11, "exam", "(II)I"⟩
abbrev cX11_aboard : ByteArray := prog_1_method_20_code
def yX11_aboard : MethodName := ⟨RX11, "aboard", "(III)I"⟩
abbrev cX11_together : ByteArray := prog_1_method_21_code
def yX11_together : MethodName := ⟨RX11, "together", "(I)I"⟩
abbrev cX11_known : ByteArray := prog_1_method_22_code
def yX11_known : MethodName := ⟨RX11, "known", "(I)I"⟩
abbrev cX11_drawn : ByteArray := prog_1_method_23_code
def yX11_drawn : MethodName := ⟨RX11, "drawn", "(II)I"⟩
abbrev cX11_chance : ByteArray := prog_1_method_24_code
def yX11_chance : MethodName := ⟨RX11, "chance", "(IIIII)J"⟩
abbrev cX11_image : ByteArray := prog_1_method_25_code
def yX11_image : MethodName := ⟨RX11, "image", "()I"⟩
abbrev cX11_back : ByteArray := prog_1_method_26_code
def yX11_back : MethodName := ⟨RX11, "back", "()I"⟩
abbrev cX11_count : ByteArray := prog_1_method_27_code
def yX11_count : MethodName := ⟨RX11, "count", "(I)I"⟩
abbrev cX11_sheet : ByteArray := prog_1_method_28_code
def yX11_sheet : MethodName := ⟨RX11, "sheet", "(III)I"⟩
abbrev cX11_cell : ByteArray := prog_1_method_29_code
def yX11_cell : MethodName := ⟨RX11, "cell", "(III)I"⟩
abbrev cX11_copy : ByteArray := prog_1_method_30_code
def yX11_copy : MethodName := ⟨RX11, "copy", "(IIIII)I"⟩
abbrev cX11_children : ByteArray := prog_1_method_31_code
def yX11_children : MethodName := ⟨RX11, "children", "(IIII)I"⟩
abbrev cX11_taken : ByteArray := prog_1_method_32_code
def yX11_taken : MethodName := ⟨RX11, "taken", "(II)I"⟩
abbrev cX11_isLesson : ByteArray := prog_1_method_33_code
def yX11_isLesson : MethodName := ⟨RX11, "isLesson", "(I)Z"⟩
abbrev cX11_isChild : ByteArray := prog_1_method_34_code
def yX11_isChild : MethodName := ⟨RX11, "isChild", "(I)Z"⟩
abbrev cX11_isBend : ByteArray := prog_1_method_35_code
def yX11_isBend : MethodName := ⟨RX11, "isBend", "(I)Z"⟩
abbrev cX11_isRaft : ByteArray := prog_1_method_36_code
def yX11_isRaft : MethodName := ⟨RX11, "isRaft", "(I)Z"⟩
abbrev cX11_isKind : ByteArray := prog_1_method_37_code
def yX11_isKind : MethodName := ⟨RX11, "isKind", "(I)Z"⟩
abbrev cX11_isNumber : ByteArray := prog_1_method_38_code
def yX11_isNumber : MethodName := ⟨RX11, "isNumber", "(I)Z"⟩
abbrev cX11_isAge : ByteArray := prog_1_method_39_code
def yX11_isAge : MethodName := ⟨RX11, "isAge", "(I)Z"⟩
abbrev cX11_isWater : ByteArray := prog_1_method_40_code
def yX11_isWater : MethodName := ⟨RX11, "isWater", "(I)Z"⟩
abbrev cX11_isSheet : ByteArray := prog_1_method_41_code
def yX11_isSheet : MethodName := ⟨RX11, "isSheet", "(I)Z"⟩
abbrev cX11_isSort : ByteArray := prog_1_method_42_code
def yX11_isSort : MethodName := ⟨RX11, "isSort", "(I)Z"⟩
abbrev cX11_areLessons : ByteArray := prog_1_method_43_code
def yX11_areLessons : MethodName := ⟨RX11, "areLessons", "(II)Z"⟩
abbrev cX11_isStretch : ByteArray := prog_1_method_44_code
def yX11_isStretch : MethodName := ⟨RX11, "isStretch", "(III)Z"⟩
abbrev cX11_maySet : ByteArray := prog_1_method_45_code
def yX11_maySet : MethodName := ⟨RX11, "maySet", "(III)Z"⟩
abbrev cX11_settable : ByteArray := prog_1_method_46_code
def yX11_settable : MethodName := ⟨RX11, "settable", "(I)[I"⟩
abbrev cX11_isUnder : ByteArray := prog_1_method_47_code
def yX11_isUnder : MethodName := ⟨RX11, "isUnder", "(LSchoolOnRaft$Kind;I)Z"⟩
abbrev cX11_refusalOfExam : ByteArray := prog_1_method_48_code
def yX11_refusalOfExam : MethodName := ⟨RX11, "refusalOfExam", "(II)I"⟩
abbrev cX11_planOf : ByteArray := prog_1_method_49_code
def yX11_planOf : MethodName := ⟨RX11, "planOf", "(I)[I"⟩
abbrev cX11_bring : ByteArray := prog_1_method_50_code
def yX11_bring : MethodName := ⟨RX11, "bring", "(II)I"⟩
abbrev cX11_trimmed : ByteArray := prog_1_method_51_code
def yX11_trimmed : MethodName := ⟨RX11, "trimmed", "(II)I"⟩
abbrev cX11_pointsOfAll : ByteArray := prog_1_method_52_code
def yX11_pointsOfAll : MethodName := ⟨RX11, "pointsOfAll", "([I)I"⟩
abbrev cX11_pointsChanging : ByteArray := prog_1_method_53_code
def yX11_pointsChanging : MethodName := ⟨RX11, "pointsChanging", "(II)I"⟩
abbrev cX11_costOf : ByteArray := prog_1_method_54_code
def yX11_costOf : MethodName := ⟨RX11, "costOf", "(III)I"⟩
abbrev cX11_ownedAtEnd : ByteArray := prog_1_method_55_code
def yX11_ownedAtEnd : MethodName := ⟨RX11, "ownedAtEnd", "(I[I)I"⟩
abbrev cX11_endsOf : ByteArray := prog_1_method_56_code
def yX11_endsOf : MethodName := ⟨RX11, "endsOf", "(I)I"⟩
abbrev cX11_whoHave : ByteArray := prog_1_method_57_code
def yX11_whoHave : MethodName := ⟨RX11, "whoHave", "(I[I)I"⟩
abbrev cX11_draw : ByteArray := prog_1_method_58_code
def yX11_draw : MethodName := ⟨RX11, "draw", "(II)V"⟩
abbrev cX11_commonDivisor : ByteArray := prog_1_method_59_code
def yX11_commonDivisor : MethodName := ⟨RX11, "commonDivisor", "(II)I"⟩
abbrev cX11_bendsWithLesson : ByteArray := prog_1_method_60_code
def yX11_bendsWithLesson : MethodName := ⟨RX11, "bendsWithLesson", "([I)I"⟩
def RX12 : String := "SchoolOnRaftModel"
def TX12 : u_T := fun k => match k with
  | 0 => ("SchoolOnRaftModel", "thrown", "I", false)
  | 1 => ("SchoolOnRaftModel", "texts", "[I", true)
  | 2 => ("SchoolOnRaftModel", "textSize", "[I", true)
  | 3 => ("SchoolOnRaftModel", "textCount", "I", false)
  | 4 => ("SchoolOnRaftModel", "rule", "I", false)
  | 5 => ("SchoolOnRaftModel", "tape", "[I", true)
  | 6 => ("SchoolOnRaftModel", "taped", "I", false)
  | 7 => ("SchoolOnRaftModel", "kinds", "[I", true)
  | 8 => ("SchoolOnRaftModel", "numbers", "[I", true)
  | 9 => ("SchoolOnRaftModel", "needs", "[I", true)
  | 10 => ("SchoolOnRaftModel", "lessons", "I", false)
  | 11 => ("SchoolOnRaftModel", "ons", "[I", true)
  | 12 => ("SchoolOnRaftModel", "offs", "[I", true)
  | 13 => ("SchoolOnRaftModel", "ages", "[I", true)
  | 14 => ("SchoolOnRaftModel", "childCount", "I", false)
  | 15 => ("SchoolOnRaftModel", "plans", "[I", true)
  | 16 => ("SchoolOnRaftModel", "ofBend", "I", false)
  | 17 => ("SchoolOnRaftModel", "ofChild", "I", false)
  | 18 => ("SchoolOnRaftModel", "ofLesson", "I", false)
  | 19 => ("SchoolOnRaftModel", "ofKnown", "I", false)
  | 20 => ("SchoolOnRaftModel", "ofAge", "I", false)
  | 21 => ("SchoolOnRaftModel", "ofOften", "I", false)
  | 22 => ("SchoolOnRaftModel", "from", "I", false)
  | 23 => ("SchoolOnRaftModel", "size", "I", false)
  | 24 => ("SchoolOnRaftModel", "here", "I", false)
  | 25 => ("SchoolOnRaftModel", "token", "I", false)
  | 26 => ("SchoolOnRaftModel", "tokenAt", "I", false)
  | 27 => ("SchoolOnRaftModel", "tokenWorth", "J", false)
  | 28 => ("SchoolOnRaftModel", "open", "I", false)
  | 29 => ("SchoolOnRaftModel", "bad", "Z", false)
  | 30 => ("SchoolOnRaftModel", "fault", "I", false)
  | 31 => ("SchoolOnRaftModel", "hearsNote", "[I", true)
  | 32 => ("SchoolOnRaftModel", "worthNote", "[I", true)
  | 33 => ("SchoolOnRaftModel", "often", "[I", true)
  | 34 => ("SchoolOnRaftModel", "last", "[I", true)
  | 35 => ("SchoolOnRaftModel", "row", "[I", true)
  | 36 => ("SchoolOnRaftModel", "hasAt", "[I", true)
  | 37 => ("SchoolOnRaftModel", "sums", "[I", true)
  | 38 => ("SchoolOnRaftModel", "bestRow", "[I", true)
  | 39 => ("SchoolOnRaftModel", "bestPoints", "I", false)
  | 40 => ("SchoolOnRaftModel", "haves", "[I", true)
  | 41 => ("SchoolOnRaftModel", "kept", "[I", true)
  | 42 => ("SchoolOnRaftModel", "lessonsKept", "I", false)
  | 43 => ("SchoolOnRaftModel", "childrenKept", "I", false)
  | 44 => ("SchoolOnRaftModel", "ruleKept", "I", false)
  | 45 => ("SchoolOnRaftModel", "isThere", "[Z", true)
  | 46 => ("SchoolOnRaftModel", "sorts", "[I", true)
  | 47 => ("SchoolOnRaftModel", "sheetSize", "[I", true)
  | _ => ("SchoolOnRaftModel", "items", "[I", true)
def tyX12 : Nat → FieldType := fun k => match k with
  | 0 => .int
  | 1 => .array .int
  | 2 => .array .int
  | 3 => .int
  | 4 => .int
  | 5 => .array .int
  | 6 => .int
  | 7 => .array .int
  | 8 => .array .int
  | 9 => .array .int
  | 10 => .int
  | 11 => .array .int
  | 12 => .array .int
  | 13 => .array .int
  | 14 => .int
  | 15 => .array .int
  | 16 => .int
  | 17 => .int
  | 18 => .int
  | 19 => .int
  | 20 => .int
  | 21 => .int
  | 22 => .int
  | 23 => .int
  | 24 => .int
  | 25 => .int
  | 26 => .int
  | 27 => .long
  | 28 => .int
  | 29 => .boolean
  | 30 => .int
  | 31 => .array .int
  | 32 => .array .int
  | 33 => .array .int
  | 34 => .array .int
  | 35 => .array .int
  | 36 => .array .int
  | 37 => .array .int
  | 38 => .array .int
  | 39 => .int
  | 40 => .array .int
  | 41 => .array .int
  | 42 => .int
  | 43 => .int
  | 44 => .int
  | 45 => .array .boolean
  | 46 => .array .int
  | 47 => .array .int
  | _ => .array .int
abbrev wsX120 : List Cond := u_ws RX12 TX12 49
theorem nmX12 : ∀ a, a < 49 → ∀ b, b < 49 → a ≠ b → (TX12 a).2.1 ≠ (TX12 b).2.1 := by decide +kernel
theorem tyX12_ok : ∀ k, k < 49 → parseFieldDescriptor (TX12 k).2.2.1 = some (tyX12 k) := by decide +kernel
abbrev cX12_in : ByteArray := prog_14_method_2_code
def yX12_in : MethodName := ⟨RX12, "in", "(JJJ)Z"⟩
abbrev cX12_within : ByteArray := prog_14_method_3_code
def yX12_within : MethodName := ⟨RX12, "within", "(III)I"⟩
abbrev cX12_bitsOf : ByteArray := prog_14_method_4_code
def yX12_bitsOf : MethodName := ⟨RX12, "bitsOf", "(I)I"⟩
abbrev cX12_init : ByteArray := prog_14_method_5_code
def yX12_init : MethodName := ⟨RX12, "<init>", "()V"⟩
abbrev cX12_spell : ByteArray := prog_14_method_6_code
def yX12_spell : MethodName := ⟨RX12, "spell", "(IIIIIIIII)V"⟩
abbrev cX12_isLesson : ByteArray := prog_14_method_7_code
def yX12_isLesson : MethodName := ⟨RX12, "isLesson", "(I)Z"⟩
abbrev cX12_isChild : ByteArray := prog_14_method_8_code
def yX12_isChild : MethodName := ⟨RX12, "isChild", "(I)Z"⟩
abbrev cX12_lesson : ByteArray := prog_14_method_9_code
def yX12_lesson : MethodName := ⟨RX12, "lesson", "(III)I"⟩
abbrev cX12_child : ByteArray := prog_14_method_10_code
def yX12_child : MethodName := ⟨RX12, "child", "(II)I"⟩
abbrev cX12_set : ByteArray := prog_14_method_11_code
def yX12_set : MethodName := ⟨RX12, "set", "(III)I"⟩
abbrev cX12_times : ByteArray := prog_14_method_12_code
def yX12_times : MethodName := ⟨RX12, "times", "(I)I"⟩
abbrev cX12_keeps : ByteArray := prog_14_method_13_code
def yX12_keeps : MethodName := ⟨RX12, "keeps", "(II)Z"⟩
abbrev cX12_pointsOf : ByteArray := prog_14_method_14_code
def yX12_pointsOf : MethodName := ⟨RX12, "pointsOf", "(I)I"⟩
abbrev cX12_told : ByteArray := prog_14_method_15_code
def yX12_told : MethodName := ⟨RX12, "told", "(II)I"⟩
abbrev cX12_give : ByteArray := prog_14_method_16_code
def yX12_give : MethodName := ⟨RX12, "give", "(III)I"⟩
abbrev cX12_given : ByteArray := prog_14_method_17_code
def yX12_given : MethodName := ⟨RX12, "given", "(II)I"⟩
abbrev cX12_feed : ByteArray := prog_14_method_18_code
def yX12_feed : MethodName := ⟨RX12, "feed", "(I)I"⟩
abbrev cX12_byteAt : ByteArray := prog_14_method_19_code
def yX12_byteAt : MethodName := ⟨RX12, "byteAt", "(I)I"⟩
abbrev cX12_next : ByteArray := prog_14_method_20_code
def yX12_next : MethodName := ⟨RX12, "next", "()V"⟩
abbrev cX12_fail : ByteArray := prog_14_method_21_code
def yX12_fail : MethodName := ⟨RX12, "fail", "()V"⟩
abbrev cX12_isLetter : ByteArray := prog_14_method_22_code
def yX12_isLetter : MethodName := ⟨RX12, "isLetter", "(II)Z"⟩
abbrev cX12_isWord : ByteArray := prog_14_method_23_code
def yX12_isWord : MethodName := ⟨RX12, "isWord", "(IIIIIIII)Z"⟩
abbrev cX12_isSign : ByteArray := prog_14_method_24_code
def yX12_isSign : MethodName := ⟨RX12, "isSign", "(I)Z"⟩
abbrev cX12_opens : ByteArray := prog_14_method_25_code
def yX12_opens : MethodName := ⟨RX12, "opens", "()Z"⟩
abbrev cX12_name : ByteArray := prog_14_method_26_code
def yX12_name : MethodName := ⟨RX12, "name", "()I"⟩
abbrev cX12_atom : ByteArray := prog_14_method_27_code
def yX12_atom : MethodName := ⟨RX12, "atom", "()I"⟩
abbrev cX12_term : ByteArray := prog_14_method_28_code
def yX12_term : MethodName := ⟨RX12, "term", "()I"⟩
abbrev cX12_added : ByteArray := prog_14_method_29_code
def yX12_added : MethodName := ⟨RX12, "added", "()I"⟩
abbrev cX12_not : ByteArray := prog_14_method_30_code
def yX12_not : MethodName := ⟨RX12, "not", "()I"⟩
abbrev cX12_both : ByteArray := prog_14_method_31_code
def yX12_both : MethodName := ⟨RX12, "both", "()I"⟩
abbrev cX12_either : ByteArray := prog_14_method_32_code
def yX12_either : MethodName := ⟨RX12, "either", "()I"⟩
abbrev cX12_part : ByteArray := prog_14_method_33_code
def yX12_part : MethodName := ⟨RX12, "part", "(Z)I"⟩
abbrev cX12_read : ByteArray := prog_14_method_34_code
def yX12_read : MethodName := ⟨RX12, "read", "(II)I"⟩
abbrev cX12_text : ByteArray := prog_14_method_35_code
def yX12_text : MethodName := ⟨RX12, "text", "()I"⟩
abbrev cX12_force : ByteArray := prog_14_method_36_code
def yX12_force : MethodName := ⟨RX12, "force", "(I)I"⟩
abbrev cX12_says : ByteArray := prog_14_method_37_code
def yX12_says : MethodName := ⟨RX12, "says", "(IIIIII)I"⟩
abbrev cX12_forgets : ByteArray := prog_14_method_38_code
def yX12_forgets : MethodName := ⟨RX12, "forgets", "()V"⟩
abbrev cX12_hears : ByteArray := prog_14_method_39_code
def yX12_hears : MethodName := ⟨RX12, "hears", "(IIIII)Z"⟩
abbrev cX12_worth : ByteArray := prog_14_method_40_code
def yX12_worth : MethodName := ⟨RX12, "worth", "(IIII)I"⟩
abbrev cX12_begins : ByteArray := prog_14_method_41_code
def yX12_begins : MethodName := ⟨RX12, "begins", "()V"⟩
abbrev cX12_hasBy : ByteArray := prog_14_method_42_code
def yX12_hasBy : MethodName := ⟨RX12, "hasBy", "(II)I"⟩
abbrev cX12_passes : ByteArray := prog_14_method_43_code
def yX12_passes : MethodName := ⟨RX12, "passes", "(IIIZ)V"⟩
abbrev cX12_spring : ByteArray := prog_14_method_44_code
def yX12_spring : MethodName := ⟨RX12, "spring", "(III)V"⟩
abbrev cX12_endPoints : ByteArray := prog_14_method_45_code
def yX12_endPoints : MethodName := ⟨RX12, "endPoints", "(I)I"⟩
abbrev cX12_takesPlan : ByteArray := prog_14_method_46_code
def yX12_takesPlan : MethodName := ⟨RX12, "takesPlan", "()V"⟩
abbrev cX12_pointsBy : ByteArray := prog_14_method_47_code
def yX12_pointsBy : MethodName := ⟨RX12, "pointsBy", "(I)I"⟩
abbrev cX12_allPoints : ByteArray := prog_14_method_48_code
def yX12_allPoints : MethodName := ⟨RX12, "allPoints", "()I"⟩
abbrev cX12_has : ByteArray := prog_14_method_49_code
def yX12_has : MethodName := ⟨RX12, "has", "(II)I"⟩
abbrev cX12_heard : ByteArray := prog_14_method_50_code
def yX12_heard : MethodName := ⟨RX12, "heard", "(III)I"⟩
abbrev cX12_points : ByteArray := prog_14_method_51_code
def yX12_points : MethodName := ⟨RX12, "points", "(I)I"⟩
abbrev cX12_adds : ByteArray := prog_14_method_52_code
def yX12_adds : MethodName := ⟨RX12, "adds", "(III)V"⟩
abbrev cX12_seeks : ByteArray := prog_14_method_53_code
def yX12_seeks : MethodName := ⟨RX12, "seeks", "()V"⟩
abbrev cX12_best : ByteArray := prog_14_method_54_code
def yX12_best : MethodName := ⟨RX12, "best", "(I)I"⟩
abbrev cX12_lay : ByteArray := prog_14_method_55_code
def yX12_lay : MethodName := ⟨RX12, "lay", "()I"⟩
abbrev cX12_run : ByteArray := prog_14_method_56_code
def yX12_run : MethodName := ⟨RX12, "run", "(III)I"⟩
abbrev cX12_twice : ByteArray := prog_14_method_57_code
def yX12_twice : MethodName := ⟨RX12, "twice", "(II)I"⟩
abbrev cX12_changeAt : ByteArray := prog_14_method_58_code
def yX12_changeAt : MethodName := ⟨RX12, "changeAt", "(II)I"⟩
abbrev cX12_change : ByteArray := prog_14_method_59_code
def yX12_change : MethodName := ⟨RX12, "change", "(II)I"⟩
abbrev cX12_examBad : ByteArray := prog_14_method_60_code
def yX12_examBad : MethodName := ⟨RX12, "examBad", "(II)I"⟩
abbrev cX12_unlike : ByteArray := prog_14_method_61_code
def yX12_unlike : MethodName := ⟨RX12, "unlike", "(I)I"⟩
abbrev cX12_exam : ByteArray := prog_14_method_62_code
def yX12_exam : MethodName := ⟨RX12, "exam", "(II)I"⟩
abbrev cX12_aboard : ByteArray := prog_14_method_63_code
def yX12_aboard : MethodName := ⟨RX12, "aboard", "(III)I"⟩
abbrev cX12_allHave : ByteArray := prog_14_method_64_code
def yX12_allHave : MethodName := ⟨RX12, "allHave", "()I"⟩
abbrev cX12_together : ByteArray := prog_14_method_65_code
def yX12_together : MethodName := ⟨RX12, "together", "(I)I"⟩
abbrev cX12_known : ByteArray := prog_14_method_66_code
def yX12_known : MethodName := ⟨RX12, "known", "(I)I"⟩
abbrev cX12_floods : ByteArray := prog_14_method_67_code
def yX12_floods : MethodName := ⟨RX12, "floods", "(II)V"⟩
abbrev cX12_drawn : ByteArray := prog_14_method_68_code
def yX12_drawn : MethodName := ⟨RX12, "drawn", "(II)I"⟩
abbrev cX12_chance : ByteArray := prog_14_method_69_code
def yX12_chance : MethodName := ⟨RX12, "chance", "(IIIII)J"⟩
abbrev cX12_image : ByteArray := prog_14_method_70_code
def yX12_image : MethodName := ⟨RX12, "image", "()I"⟩
abbrev cX12_back : ByteArray := prog_14_method_71_code
def yX12_back : MethodName := ⟨RX12, "back", "()I"⟩
abbrev cX12_count : ByteArray := prog_14_method_72_code
def yX12_count : MethodName := ⟨RX12, "count", "(I)I"⟩
abbrev cX12_isSheet : ByteArray := prog_14_method_73_code
def yX12_isSheet : MethodName := ⟨RX12, "isSheet", "(I)Z"⟩
abbrev cX12_sheet : ByteArray := prog_14_method_74_code
def yX12_sheet : MethodName := ⟨RX12, "sheet", "(III)I"⟩
abbrev cX12_cell : ByteArray := prog_14_method_75_code
def yX12_cell : MethodName := ⟨RX12, "cell", "(III)I"⟩
abbrev cX12_copy : ByteArray := prog_14_method_76_code
def yX12_copy : MethodName := ⟨RX12, "copy", "(IIIII)I"⟩
abbrev cX12_children : ByteArray := prog_14_method_77_code
def yX12_children : MethodName := ⟨RX12, "children", "(IIII)I"⟩
abbrev cX12_over : ByteArray := prog_14_method_78_code
def yX12_over : MethodName := ⟨RX12, "over", "(I)I"⟩
abbrev cX12_taken : ByteArray := prog_14_method_79_code
def yX12_taken : MethodName := ⟨RX12, "taken", "(II)I"⟩
def RJx145de : String := "java/io/Serializable"
def TJx145de : u_T := fun k => match k with
  | _ => ("", "", "", false)
def tyJx145de : Nat → FieldType := fun k => match k with
  | _ => .int
abbrev wsJx145de0 : List Cond := u_ws RJx145de TJx145de 0
theorem nmJx145de : ∀ a, a < 0 → ∀ b, b < 0 → a ≠ b → (TJx145de a).2.1 ≠ (TJx145de b).2.1 := by decide +kernel
theorem tyJx145de_ok : ∀ k, k < 0 → parseFieldDescriptor (TJx145de k).2.2.1 = some (tyJx145de k) := by decide +kernel
def RJx9f9b0 : String := "java/lang/CharSequence"
def TJx9f9b0 : u_T := fun k => match k with
  | _ => ("", "", "", false)
def tyJx9f9b0 : Nat → FieldType := fun k => match k with
  | _ => .int
abbrev wsJx9f9b00 : List Cond := u_ws RJx9f9b0 TJx9f9b0 0
theorem nmJx9f9b0 : ∀ a, a < 0 → ∀ b, b < 0 → a ≠ b → (TJx9f9b0 a).2.1 ≠ (TJx9f9b0 b).2.1 := by decide +kernel
theorem tyJx9f9b0_ok : ∀ k, k < 0 → parseFieldDescriptor (TJx9f9b0 k).2.2.1 = some (tyJx9f9b0 k) := by decide +kernel
def RJx8e188 : String := "java/lang/Cloneable"
def TJx8e188 : u_T := fun k => match k with
  | _ => ("", "", "", false)
def tyJx8e188 : Nat → FieldType := fun k => match k with
  | _ => .int
abbrev wsJx8e1880 : List Cond := u_ws RJx8e188 TJx8e188 0
theorem nmJx8e188 : ∀ a, a < 0 → ∀ b, b < 0 → a ≠ b → (TJx8e188 a).2.1 ≠ (TJx8e188 b).2.1 := by decide +kernel
theorem tyJx8e188_ok : ∀ k, k < 0 → parseFieldDescriptor (TJx8e188 k).2.2.1 = some (tyJx8e188 k) := by decide +kernel
def RJxb160c : String := "java/lang/Comparable"
def TJxb160c : u_T := fun k => match k with
  | _ => ("", "", "", false)
def tyJxb160c : Nat → FieldType := fun k => match k with
  | _ => .int
abbrev wsJxb160c0 : List Cond := u_ws RJxb160c TJxb160c 0
theorem nmJxb160c : ∀ a, a < 0 → ∀ b, b < 0 → a ≠ b → (TJxb160c a).2.1 ≠ (TJxb160c b).2.1 := by decide +kernel
theorem tyJxb160c_ok : ∀ k, k < 0 → parseFieldDescriptor (TJxb160c k).2.2.1 = some (tyJxb160c k) := by decide +kernel
def RJ6 : String := "java/lang/Integer"
def TJ6 : u_T := fun k => match k with
  | _ => ("", "", "", false)
def tyJ6 : Nat → FieldType := fun k => match k with
  | _ => .int
abbrev wsJ60 : List Cond := u_ws RJ6 TJ6 0
theorem nmJ6 : ∀ a, a < 0 → ∀ b, b < 0 → a ≠ b → (TJ6 a).2.1 ≠ (TJ6 b).2.1 := by decide +kernel
theorem tyJ6_ok : ∀ k, k < 0 → parseFieldDescriptor (TJ6 k).2.2.1 = some (tyJ6 k) := by decide +kernel
abbrev cJ6_bitCount_0f7a4 : ByteArray := prog_16_method_49_code
def yJ6_bitCount_0f7a4 : MethodName := ⟨RJ6, "bitCount", "(I)I"⟩
def RJ9 : String := "java/lang/Math"
def TJ9 : u_T := fun k => match k with
  | _ => ("", "", "", false)
def tyJ9 : Nat → FieldType := fun k => match k with
  | _ => .int
abbrev wsJ90 : List Cond := u_ws RJ9 TJ9 0
theorem nmJ9 : ∀ a, a < 0 → ∀ b, b < 0 → a ≠ b → (TJ9 a).2.1 ≠ (TJ9 b).2.1 := by decide +kernel
theorem tyJ9_ok : ∀ k, k < 0 → parseFieldDescriptor (TJ9 k).2.2.1 = some (tyJ9 k) := by decide +kernel
abbrev cJ9_max_7cf53 : ByteArray := prog_17_method_65_code
def yJ9_max_7cf53 : MethodName := ⟨RJ9, "max", "(II)I"⟩
abbrev cJ9_min_7cf53 : ByteArray := prog_17_method_69_code
def yJ9_min_7cf53 : MethodName := ⟨RJ9, "min", "(II)I"⟩
def RJ0 : String := "java/lang/String"
def TJ0 : u_T := fun k => match k with
  | _ => ("", "", "", false)
def tyJ0 : Nat → FieldType := fun k => match k with
  | _ => .int
abbrev wsJ00 : List Cond := u_ws RJ0 TJ0 0
theorem nmJ0 : ∀ a, a < 0 → ∀ b, b < 0 → a ≠ b → (TJ0 a).2.1 ≠ (TJ0 b).2.1 := by decide +kernel
theorem tyJ0_ok : ∀ k, k < 0 → parseFieldDescriptor (TJ0 k).2.2.1 = some (tyJ0 k) := by decide +kernel
abbrev cJ0_length_8abf5 : ByteArray := prog_18_method_54_code
def yJ0_length_8abf5 : MethodName := ⟨RJ0, "length", "()I"⟩
abbrev cJ0_charAt_5068e : ByteArray := prog_18_method_56_code
def yJ0_charAt_5068e : MethodName := ⟨RJ0, "charAt", "(I)C"⟩
abbrev cJ0_coder_7d493 : ByteArray := prog_18_method_152_code
def yJ0_coder_7d493 : MethodName := ⟨RJ0, "coder", "()B"⟩
abbrev cJ0_isLatin1_aae02 : ByteArray := prog_18_method_154_code
def yJ0_isLatin1_aae02 : MethodName := ⟨RJ0, "isLatin1", "()Z"⟩
abbrev cJ0_checkIndex_df160 : ByteArray := prog_18_method_155_code
def yJ0_checkIndex_df160 : MethodName := ⟨RJ0, "checkIndex", "(II)V"⟩
def RJ1 : String := "java/lang/StringLatin1"
def TJ1 : u_T := fun k => match k with
  | _ => ("", "", "", false)
def tyJ1 : Nat → FieldType := fun k => match k with
  | _ => .int
abbrev wsJ10 : List Cond := u_ws RJ1 TJ1 0
theorem nmJ1 : ∀ a, a < 0 → ∀ b, b < 0 → a ≠ b → (TJ1 a).2.1 ≠ (TJ1 b).2.1 := by decide +kernel
theorem tyJ1_ok : ∀ k, k < 0 → parseFieldDescriptor (TJ1 k).2.2.1 = some (tyJ1 k) := by decide +kernel
abbrev cJ1_charAt_3b067 : ByteArray := prog_19_method_2_code
def yJ1_charAt_3b067 : MethodName := ⟨RJ1, "charAt", "([BI)C"⟩
def RJ2 : String := "java/lang/StringUTF16"
def TJ2 : u_T := fun k => match k with
  | _ => ("", "", "", false)
def tyJ2 : Nat → FieldType := fun k => match k with
  | _ => .int
abbrev wsJ20 : List Cond := u_ws RJ2 TJ2 0
theorem nmJ2 : ∀ a, a < 0 → ∀ b, b < 0 → a ≠ b → (TJ2 a).2.1 ≠ (TJ2 b).2.1 := by decide +kernel
theorem tyJ2_ok : ∀ k, k < 0 → parseFieldDescriptor (TJ2 k).2.2.1 = some (tyJ2 k) := by decide +kernel
abbrev cJ2_getChar_3b067 : ByteArray := prog_20_method_5_code
def yJ2_getChar_3b067 : MethodName := ⟨RJ2, "getChar", "([BI)C"⟩
abbrev cJ2_length_9d52b : ByteArray := prog_20_method_6_code
def yJ2_length_9d52b : MethodName := ⟨RJ2, "length", "([B)I"⟩
abbrev cJ2_charAt_3b067 : ByteArray := prog_20_method_83_code
def yJ2_charAt_3b067 : MethodName := ⟨RJ2, "charAt", "([BI)C"⟩
abbrev cJ2_checkIndex_2214a : ByteArray := prog_20_method_91_code
def yJ2_checkIndex_2214a : MethodName := ⟨RJ2, "checkIndex", "(I[B)V"⟩
def RJ10 : String := "java/lang/System"
def TJ10 : u_T := fun k => match k with
  | _ => ("", "", "", false)
def tyJ10 : Nat → FieldType := fun k => match k with
  | _ => .int
abbrev wsJ100 : List Cond := u_ws RJ10 TJ10 0
theorem nmJ10 : ∀ a, a < 0 → ∀ b, b < 0 → a ≠ b → (TJ10 a).2.1 ≠ (TJ10 b).2.1 := by decide +kernel
theorem tyJ10_ok : ∀ k, k < 0 → parseFieldDescriptor (TJ10 k).2.2.1 = some (tyJ10 k) := by decide +kernel
def RJxfd54e : String := "java/lang/constant/Constable"
def TJxfd54e : u_T := fun k => match k with
  | _ => ("", "", "", false)
def tyJxfd54e : Nat → FieldType := fun k => match k with
  | _ => .int
abbrev wsJxfd54e0 : List Cond := u_ws RJxfd54e TJxfd54e 0
theorem nmJxfd54e : ∀ a, a < 0 → ∀ b, b < 0 → a ≠ b → (TJxfd54e a).2.1 ≠ (TJxfd54e b).2.1 := by decide +kernel
theorem tyJxfd54e_ok : ∀ k, k < 0 → parseFieldDescriptor (TJxfd54e k).2.2.1 = some (tyJxfd54e k) := by decide +kernel
def RJx3cf43 : String := "java/lang/constant/ConstantDesc"
def TJx3cf43 : u_T := fun k => match k with
  | _ => ("", "", "", false)
def tyJx3cf43 : Nat → FieldType := fun k => match k with
  | _ => .int
abbrev wsJx3cf430 : List Cond := u_ws RJx3cf43 TJx3cf43 0
theorem nmJx3cf43 : ∀ a, a < 0 → ∀ b, b < 0 → a ≠ b → (TJx3cf43 a).2.1 ≠ (TJx3cf43 b).2.1 := by decide +kernel
theorem tyJx3cf43_ok : ∀ k, k < 0 → parseFieldDescriptor (TJx3cf43 k).2.2.1 = some (tyJx3cf43 k) := by decide +kernel
def RJ7 : String := "java/util/Arrays"
def TJ7 : u_T := fun k => match k with
  | _ => ("", "", "", false)
def tyJ7 : Nat → FieldType := fun k => match k with
  | _ => .int
abbrev wsJ70 : List Cond := u_ws RJ7 TJ7 0
theorem nmJ7 : ∀ a, a < 0 → ∀ b, b < 0 → a ≠ b → (TJ7 a).2.1 ≠ (TJ7 b).2.1 := by decide +kernel
theorem tyJ7_ok : ∀ k, k < 0 → parseFieldDescriptor (TJ7 k).2.2.1 = some (tyJ7 k) := by decide +kernel
abbrev cJ7_fill_53178 : ByteArray := prog_22_method_103_code
def yJ7_fill_53178 : MethodName := ⟨RJ7, "fill", "([II)V"⟩
abbrev cJ7_copyOf_59c91 : ByteArray := prog_22_method_123_code
def yJ7_copyOf_59c91 : MethodName := ⟨RJ7, "copyOf", "([II)[I"⟩
def RJ3 : String := "jdk/internal/util/Preconditions"
def TJ3 : u_T := fun k => match k with
  | _ => ("", "", "", false)
def tyJ3 : Nat → FieldType := fun k => match k with
  | _ => .int
abbrev wsJ30 : List Cond := u_ws RJ3 TJ3 0
theorem nmJ3 : ∀ a, a < 0 → ∀ b, b < 0 → a ≠ b → (TJ3 a).2.1 ≠ (TJ3 b).2.1 := by decide +kernel
theorem tyJ3_ok : ∀ k, k < 0 → parseFieldDescriptor (TJ3 k).2.2.1 = some (tyJ3 k) := by decide +kernel
abbrev cJ3_checkIndex_8e157 : ByteArray := prog_23_method_11_code
def yJ3_checkIndex_8e157 : MethodName := ⟨RJ3, "checkIndex", "(IILjava/util/function/BiFunction;)I"⟩
def RL : String := "SchoolOnRaftLaw"
abbrev cL_law : ByteArray := code
def yL_law : MethodName := ⟨RL, "law", "([I)Z"⟩
abbrev vwCl : List vw_C := [(RX0, TX0, 11), (RX1, TX1, 0), (RX2, TX2, 0), (RX3, TX3, 0), (RX4, TX4, 0), (RX5, TX5, 0), (RX6, TX6, 7), (RX7, TX7, 7), (RX8, TX8, 0), (RX9, TX9, 7), (RX10, TX10, 3), (RX11, TX11, 10), (RX12, TX12, 49)]
end
section
/-! ===== the mini machine: a picture of the heap by cell numbers, a run of straight code by evaluation ===== -/
/-- a cell's shape: an array (type number, length), or an object (class number, fields: 0 an int, 1 a long, 2 null, k + 3 cell k) -/
abbrev mm_Sh : Type := (Nat × Nat) ⊕ (Nat × List Nat)
/-- shapes, ints by cell and place, (longs by cell and place, the script's length, the script) -/
abbrev mm_Hp : Type := List mm_Sh × (Nat → Nat → Int32) × (Nat → Nat → Int64) × Nat × (Nat → Int32)
/-- the setting: class numbers and slots, array classes, base, addresses of the String constants, the script -/
abbrev mm_X : Type := va_G × (Nat → ClassId) × Nat × ((Nat → Nat) × (Nat → Nat)) × Nat × Nat × (Nat → Int32)
abbrev mm_L : Type := List (Option Value)
abbrev mm_S : Type := Nat × mm_L × List Value × mm_Hp
abbrev mm_M : Type := MethodName × ByteArray × Nat × Option FieldType
/-- an instruction: its place, itself, its length, two numbers and a value that resolve it -/
abbrev mm_E : Type := Nat × Instr × Nat × Nat × Nat × Value
def mm_G : List Cond := lw_tbl.filter goodWord
def mm_up (g : Nat → Nat → Int32) (k j : Nat) (v : Int32) : Nat → Nat → Int32 := fun a b => bif (a == k && b == j) then v else g a b
def mm_ul (g : Nat → Nat → Int64) (k j : Nat) (v : Int64) : Nat → Nat → Int64 := fun a b => bif (a == k && b == j) then v else g a b
def mm_rv (X : mm_X) (ad : Nat → Nat) : Value → Value
  | .ref k => .ref (ad k)
  | .retAddr i => .ref (bif Nat.ble 100 i && Nat.blt i 200 then X.2.2.2.1.2 (i - 100) else X.2.2.2.1.1 i)
  | .float _ => .ref X.2.2.2.2.1
  | .int x => .int x
  | .long x => .long x
  | .double x => .double x
  | .null => .null
theorem mm_rv_cat {X : mm_X} {ad : Nat → Nat} (v : Value) : (mm_rv X ad v).category = v.category := by cases v <;> rfl
/-- a field's value in the picture, and in the heap -/
def mm_vF (h : mm_Hp) (k j : Nat) : Nat → Value
  | 0 => .int (h.2.1 k j)
  | 1 => .long (h.2.2.1 k j)
  | 2 => .null
  | c + 3 => .ref c
def mm_cF (ad : Nat → Nat) (h : mm_Hp) (k j : Nat) : Nat → Value
  | 0 => .int (h.2.1 k j)
  | 1 => .long (h.2.2.1 k j)
  | 2 => .null
  | c + 3 => .ref (ad c)
theorem mm_rv_vF {X : mm_X} {ad : Nat → Nat} {h : mm_Hp} {k j c : Nat} : mm_rv X ad (mm_vF h k j c) = mm_cF ad h k j c := by
  match c with
  | 0 => rfl
  | 1 => rfl
  | 2 => rfl
  | c + 3 => rfl
/-- a place of an array of references: 0 null, k + 1 cell k -/
def mm_rd (ad : Nat → Nat) (x : Int32) : Option Nat := if x ≤ 0 then none else some (ad (x.toNatClampNeg - 1))
def mm_rf (x : Int32) : Value := if x ≤ 0 then .null else .ref (x.toNatClampNeg - 1)
theorem mm_rv_rf {X : mm_X} {ad : Nat → Nat} {x : Int32} : mm_rv X ad (mm_rf x) = va_rf (mm_rd ad x) := by
  unfold mm_rf mm_rd
  split <;> rfl
def mm_cv (X : mm_X) (ad : Nat → Nat) (h : mm_Hp) (k : Nat) : mm_Sh → va_E
  | .inl a => .inl (X.2.1 a.1, a.2, if a.1 < 2 then .inl (h.2.1 k) else .inr (.inr (.inr (.inr (fun i => mm_rd ad (h.2.1 k i))))))
  | .inr o => .inr (o.1, o.2.mapIdx (fun j c => mm_cF ad h k j c))
def mm_lay (X : mm_X) (ad : Nat → Nat) (h : mm_Hp) : va_W := h.1.mapIdx (fun k c => (ad k, mm_cv X ad h k c))
theorem mm_lay_get {X : mm_X} {ad : Nat → Nat} {h : mm_Hp} (k : Nat) : (mm_lay X ad h)[k]? = (h.1[k]?).map (fun c => (ad k, mm_cv X ad h k c)) := by
  simp [mm_lay]
theorem mm_lay_at {X : mm_X} {ad : Nat → Nat} {h : mm_Hp} {k : Nat} {c : mm_Sh} (hk : h.1[k]? = some c) : (mm_lay X ad h)[k]? = some (ad k, mm_cv X ad h k c) := by
  rw [mm_lay_get, hk]; rfl
def mm_A (X : mm_X) : Nat → Prop := fun q => X.2.2.1 ≤ q
/-- the heap holds the picture -/
def mm_Rel (X : mm_X) (ad : Nat → Nat) (h : mm_Hp) (H : Heap) : Prop := va_P X.1 vwCl (mm_lay X ad h) H ∧ va_D (mm_A X) (mm_lay X ad h) ∧ h.2.2.2 = X.2.2.2.2.2
/-- array types by number -/
def mm_tys (cA : Nat → ClassId) : List (ClassId × FieldType) := [(cA 0, .int), (cA 1, .boolean), (cA 2, .object "SchoolOnRaft$Text"), (cA 3, .object "SchoolOnRaft$Kind"), (cA 4, .array .int)]
def mm_isN : Cond → Bool
  | .methodLinkNest .. => true
  | .castable .. => true
  | .declares _ => true
  | _ => false
def mm_N : List Cond := lw_tbl.filter mm_isN
/-- pairs of kinds that aren't castable -/
def mm_nc : List (String × String) := [("SchoolOnRaft$Kind", "SchoolOnRaft$LongKind"), ("SchoolOnRaft$Kind", "SchoolOnRaft$LightKind"), ("SchoolOnRaft$Kind", "SchoolOnRaft$HardKind"), ("SchoolOnRaft$Kind", "SchoolOnRaft$SongKind"), ("SchoolOnRaft$Kind", "SchoolOnRaft$ProofKind"),
  ("SchoolOnRaft$LongKind", "SchoolOnRaft$LightKind"), ("SchoolOnRaft$LongKind", "SchoolOnRaft$HardKind"), ("SchoolOnRaft$LongKind", "SchoolOnRaft$SongKind"), ("SchoolOnRaft$LongKind", "SchoolOnRaft$ProofKind"),
  ("SchoolOnRaft$LightKind", "SchoolOnRaft$LongKind"), ("SchoolOnRaft$LightKind", "SchoolOnRaft$HardKind"), ("SchoolOnRaft$LightKind", "SchoolOnRaft$SongKind"), ("SchoolOnRaft$LightKind", "SchoolOnRaft$ProofKind"),
  ("SchoolOnRaft$HardKind", "SchoolOnRaft$LightKind"), ("SchoolOnRaft$HardKind", "SchoolOnRaft$SongKind"), ("SchoolOnRaft$HardKind", "SchoolOnRaft$ProofKind"),
  ("SchoolOnRaft$SongKind", "SchoolOnRaft$LongKind"), ("SchoolOnRaft$SongKind", "SchoolOnRaft$HardKind"), ("SchoolOnRaft$SongKind", "SchoolOnRaft$ProofKind"),
  ("SchoolOnRaft$ProofKind", "SchoolOnRaft$LightKind"), ("SchoolOnRaft$ProofKind", "SchoolOnRaft$HardKind"), ("SchoolOnRaft$ProofKind", "SchoolOnRaft$SongKind")]
/-- the String constants of Reader: the pool's places and the texts -/
def mm_str : List (Nat × String) := [(95, "bend"), (101, "child"), (103, "lesson"), (105, "known"), (107, "age"), (109, "often"), (111, "or"), (113, "and"), (115, "not"), (117, "hears"), (119, "worth"), (121, "runs")]
def mm_sl : List Nat := [4, 5, 6, 5, 3, 5, 2, 3, 3, 5, 5, 4]
def mm_sb : List (List Int32) := [[98, 101, 110, 100], [99, 104, 105, 108, 100], [108, 101, 115, 115, 111, 110], [107, 110, 111, 119, 110], [97, 103, 101], [111, 102, 116, 101, 110], [111, 114], [97, 110, 100], [110, 111, 116], [104, 101, 97, 114, 115], [119, 111, 114, 116, 104], [114, 117, 110, 115]]
/-- what holds of the tables at every state of the law's run -/
def mm_T (X : mm_X) (U : State) : Prop := va_K X.1 vwCl (mm_tys X.2.1) U ∧ (∀ w ∈ mm_N, va_Nw w U) ∧ va_AO "SchoolOnRaft$Text" U ∧ va_AO "SchoolOnRaft$Kind" U ∧ va_AOA .int U ∧ (∀ q ∈ mm_nc, va_Nc q.1 q.2 U) ∧ ∀ (i : Nat) (q : Nat × String), mm_str[i]? = some q → vk_R "SchoolOnRaft$Reader" q.1 q.2 (X.2.2.2.1.1 i) U
/-- what holds of the heap's old part -/
def mm_O (X : mm_X) (U : State) (H : Heap) : Prop := vk_S 12 mm_sl mm_sb X.2.2.2.1.1 X.2.2.2.1.2 (mm_A X) U H ∧ va_Z "java/lang/String" "COMPACT_STRINGS" "Z" (.int 1) (mm_A X) U H ∧ va_X X.2.2.2.2.1 X.2.2.2.2.2.1 X.2.2.2.2.2.2 U H ∧ X.2.2.2.2.1 < X.2.2.1 ∧ X.2.2.1 ≤ H.size ∧ (va_Z "jdk/internal/util/Preconditions" "SIOOBE_FORMATTER" "Ljava/util/function/BiFunction;" .null (mm_A X) U H ∨ va_Z "jdk/internal/util/Preconditions" "SIOOBE_FORMATTER" "Ljava/util/function/BiFunction;" (.ref (X.2.2.2.1.1 200)) (mm_A X) U H)
end
section
/-! ===== a method's walk over the picture ===== -/
/-- the locals hold lv -/
def mm_lh (X : mm_X) (ad : Nat → Nat) (ls : Array Slot) (nL : Nat) (lv : mm_L) : Prop := lv.length = nL ∧ ls.size = nL ∧ lv_wf ls ∧ ∀ (i : Nat) (v : Value), lv[i]? = some (some v) → ls[i]? = some (.val (mm_rv X ad v))
def mm_as (X : mm_X) (ad : Nat → Nat) (lv : mm_L) : List (Nat × Value) := (List.range lv.length).filterMap (fun i => match lv[i]? with
  | some (some v) => some (i, mm_rv X ad v)
  | _ => none)
theorem mm_as_in {X : mm_X} {ad : Nat → Nat} {lv : mm_L} {i : Nat} {w : Value} : (i, w) ∈ mm_as X ad lv ↔ ∃ v, lv[i]? = some (some v) ∧ w = mm_rv X ad v := by
  unfold mm_as
  rw [List.mem_filterMap]
  constructor
  · rintro ⟨j, -, hj⟩
    split at hj
    · rename_i v hv
      cases hj
      exact ⟨v, hv, rfl⟩
    · cases hj
  · rintro ⟨v, hv, rfl⟩
    refine ⟨i, List.mem_range.mpr (List.getElem?_eq_some_iff.mp hv).1, ?_⟩
    rw [hv]
theorem mm_lh.has {X : mm_X} {ad : Nat → Nat} {ls : Array Slot} {nL : Nat} {lv : mm_L} (h : mm_lh X ad ls nL lv) : lv_has ls nL (mm_as X ad lv) := by
  refine ⟨h.2.1, h.2.2.1, fun q hq => ?_⟩
  obtain ⟨v, hv, e⟩ := mm_as_in.mp (show (q.1, q.2) ∈ _ from hq)
  rw [e]
  exact h.2.2.2 _ _ hv
/-- no long ends at the place ahead -/
def mm_pr (lv : mm_L) : Nat → Bool
  | 0 => true
  | i + 1 => match lv[i]? with
    | some (some v) => v.category == 1
    | _ => true
theorem mm_pr_ne {X : mm_X} {ad : Nat → Nat} {lv : mm_L} {i j : Nat} {v : Value} (hp : mm_pr lv i = true) (hv : lv[j]? = some (some v)) : (j + 1 == i && (mm_rv X ad v).category == 2) = false := by
  rw [mm_rv_cat]
  cases i with
  | zero => simp
  | succ i =>
    by_cases e : j = i
    · subst e
      simp only [mm_pr, hv, beq_iff_eq] at hp
      simp [hp]
    · simp [e]
theorem mm_lh.st1 {X : mm_X} {ad : Nat → Nat} {ls ls' : Array Slot} {nL : Nat} {lv : mm_L} {i : Nat} {v : Value} (h : mm_lh X ad ls nL lv) (hp : mm_pr lv i = true) (h' : lv_has ls' nL ((i, mm_rv X ad v) :: (mm_as X ad lv).filter (fun q => !(q.1 == i) && !(q.1 + 1 == i && q.2.category == 2)))) : mm_lh X ad ls' nL (lv.set i (some v)) := by
  refine ⟨by rw [List.length_set]; exact h.1, h'.1, h'.2.1, fun j w hw => ?_⟩
  refine h'.2.2 (j, mm_rv X ad w) ?_
  by_cases e : j = i
  · subst e
    rw [List.getElem?_set_self (by have := (List.getElem?_eq_some_iff.mp hw).1; rwa [List.length_set] at this)] at hw
    cases hw
    exact List.mem_cons_self
  · rw [List.getElem?_set_ne (fun q => e q.symm)] at hw
    refine List.mem_cons_of_mem _ (List.mem_filter.mpr ⟨mm_as_in.mpr ⟨w, hw, rfl⟩, ?_⟩)
    simp only [mm_pr_ne (X := X) (ad := ad) hp hw]
    simp [e]
theorem mm_lh.st2 {X : mm_X} {ad : Nat → Nat} {ls ls' : Array Slot} {nL : Nat} {lv : mm_L} {i : Nat} {v : Value} (h : mm_lh X ad ls nL lv) (hp : mm_pr lv i = true) (h' : lv_has ls' nL ((i, mm_rv X ad v) :: (mm_as X ad lv).filter (fun q => !(q.1 == i) && (!(q.1 == i + 1) && !(q.1 + 1 == i && q.2.category == 2))))) : mm_lh X ad ls' nL ((lv.set i (some v)).set (i + 1) none) := by
  refine ⟨by rw [List.length_set, List.length_set]; exact h.1, h'.1, h'.2.1, fun j w hw => ?_⟩
  refine h'.2.2 (j, mm_rv X ad w) ?_
  by_cases e1 : j = i + 1
  · subst e1
    rw [List.getElem?_set_self (by have := (List.getElem?_eq_some_iff.mp hw).1; rwa [List.length_set] at this)] at hw
    cases hw
  · rw [List.getElem?_set_ne (fun q => e1 q.symm)] at hw
    by_cases e : j = i
    · subst e
      rw [List.getElem?_set_self (by have := (List.getElem?_eq_some_iff.mp hw).1; rwa [List.length_set] at this)] at hw
      cases hw
      exact List.mem_cons_self
    · rw [List.getElem?_set_ne (fun q => e q.symm)] at hw
      refine List.mem_cons_of_mem _ (List.mem_filter.mpr ⟨mm_as_in.mpr ⟨w, hw, rfl⟩, ?_⟩)
      simp only [mm_pr_ne (X := X) (ad := ad) hp hw]
      simp [e, e1]
/-- a method's locals at its entry -/
def mm_sp : List Value → mm_L
  | [] => []
  | v :: vs => match v.category with
    | 2 => some v :: none :: mm_sp vs
    | _ => some v :: mm_sp vs
def mm_in (as : List Value) (n : Nat) : mm_L := mm_sp as ++ List.replicate (n - (mm_sp as).length) none
theorem mm_sp_len {X : mm_X} {ad : Nat → Nat} (as : List Value) : (lg_sl (as.map (mm_rv X ad))).length = (mm_sp as).length := by
  induction as with
  | nil => rfl
  | cons v vs ih =>
    have e : lg_sl ((v :: vs).map (mm_rv X ad)) = (if (mm_rv X ad v).category = 2 then [.val (mm_rv X ad v), .second] else [.val (mm_rv X ad v)]) ++ lg_sl (vs.map (mm_rv X ad)) := rfl
    rw [e, List.length_append, ih, mm_rv_cat]
    rcases lv_cat v with h | h <;> simp [mm_sp, h] <;> omega
theorem mm_sp_in {X : mm_X} {ad : Nat → Nat} (as : List Value) : ∀ (b i : Nat) (v : Value), (mm_sp as)[i]? = some (some v) → (b + i, mm_rv X ad v) ∈ lv_args b (as.map (mm_rv X ad)) := by
  induction as with
  | nil => intro b i v h; simp [mm_sp] at h
  | cons w ws ih =>
    intro b i v h
    have e : lv_args b ((w :: ws).map (mm_rv X ad)) = (b, mm_rv X ad w) :: lv_args (if (mm_rv X ad w).category = 2 then b + 2 else b + 1) (ws.map (mm_rv X ad)) := rfl
    rw [e, mm_rv_cat]
    rcases lv_cat w with hc | hc
    · simp only [mm_sp, hc] at h
      rw [if_neg (by omega)]
      cases i with
      | zero => simp at h; subst h; simp
      | succ i =>
        have := ih (b + 1) i v (by simpa using h)
        rw [show b + 1 + i = b + (i + 1) by omega] at this
        exact List.mem_cons_of_mem _ this
    · simp only [mm_sp, hc] at h
      rw [if_pos hc]
      cases i with
      | zero => simp at h; subst h; simp
      | succ i =>
        cases i with
        | zero => simp at h
        | succ i =>
          have := ih (b + 2) i v (by simpa using h)
          rw [show b + 2 + i = b + (i + 1 + 1) by omega] at this
          exact List.mem_cons_of_mem _ this
theorem mm_entry {X : mm_X} {ad : Nat → Nat} (as : List Value) {n : Nat} (h : (mm_sp as).length ≤ n) : mm_lh X ad ((lg_sl (as.map (mm_rv X ad)) ++ List.replicate (n - (lg_sl (as.map (mm_rv X ad))).length) Slot.unset).toArray) n (mm_in as n) := by
  obtain ⟨h1, h2, h3⟩ := lv_entry (as.map (mm_rv X ad)) (n := n) (by rw [mm_sp_len]; exact h)
  refine ⟨by simp [mm_in]; omega, h1, h2, fun i v hv => ?_⟩
  unfold mm_in at hv
  by_cases hl : i < (mm_sp as).length
  · rw [List.getElem?_append_left hl] at hv
    have := h3 _ (mm_sp_in (X := X) (ad := ad) as 0 i v hv)
    simpa using this
  · rw [List.getElem?_append_right (by omega)] at hv
    have := List.mem_of_getElem? hv
    simp at this
def mm_C (p : Program) (s : State) (m : MethodId) (args : Array Value) (meth : Method) (c : Code) (M : mm_M) (X : mm_X) : Prop :=
  p.tables.exec = Jvm.exec ∧ c.code = M.2.1 ∧ c.maxLocals = M.2.2.1 ∧ meth.sig.returnType = M.2.2.2 ∧ meth.locks = false ∧ s.vm.findClass M.1.cls = some m.cls ∧ (∀ w ∈ mm_G, w.before args s = true) ∧ meth.name = M.1.name ∧ mm_T X s ∧ mm_O X s s.heap
def mm_R (d mc ms : Nat) : Room := { frames := d, cells := mc, slots := ms, locals := 41 * d + 32 }
/-- a method's end: its answer, the picture behind it, at addresses that go on the old ones -/
def mm_Q (X : mm_X) (ad0 : Nat → Nat) (n0 : Nat) (Q : Option Value → mm_Hp → Prop) : Array Value → State → Outcome → State → Prop := fun _ st o t =>
  (∃ (v : Option Value) (h : mm_Hp) (ad : Nat → Nat), o = .returned (v.map (mm_rv X ad)) ∧ Q v h ∧ mm_Rel X ad h t.heap ∧ (∀ k, k < n0 → ad k = ad0 k) ∧ n0 ≤ h.1.length) ∧ va_F (mm_A X) st t
/-- the walk from a state of the picture on: the method returns, and Q holds of its answer and the picture then -/
def mm_W (d : Nat) (M : mm_M) (mc ms : Nat) (Q : Option Value → mm_Hp → Prop) (nc ns : Nat) (σ : mm_S) : Prop :=
  ∀ (p : Program) (l : Launch) (e : Env) (s : State) (m : MethodId) (args : Array Value) (below : List Frame) (meth : Method) (c : Code) (X : mm_X) (ad0 : Nat → Nat) (n0 : Nat) (ad : Nat → Nat) (H : Heap) (locs : List Loc) (ls : Array Slot),
    mm_C p s m args meth c M X → (∀ k, k < n0 → ad k = ad0 k) → n0 ≤ σ.2.2.2.1.length → mm_Rel X ad σ.2.2.2 H → va_S (mm_A X) s.heap H locs → mm_lh X ad ls M.2.2.1 σ.2.1 →
    W p l e (mm_R d mc ms) s m args below meth c H locs nc ns (MQ below (mm_Q X ad0 n0 Q) args s mc ms (mm_A X)) (F0 m σ.1 ls (σ.2.2.1.map (mm_rv X ad)))
def mm_P (X : mm_X) (ad : Nat → Nat) (as : List Value) (h : mm_Hp) : Array Value → State → Prop := fun a U => a = (as.map (mm_rv X ad)).toArray ∧ mm_T X U ∧ mm_O X U U.heap ∧ mm_Rel X ad h U.heap
/-- a method's contract over the picture: from these arguments and this picture it returns, with Q -/
def mm_Ct (d : Nat) (M : mm_M) (as : List Value) (h : mm_Hp) (mc ms : Nat) (Q : Option Value → mm_Hp → Prop) : Prop :=
  ∀ (l : Launch) (X : mm_X) (ad : Nat → Nat), Met l M.1 (.code M.1 M.2.1 M.2.2.1 M.2.2.2 :: mm_G) (mm_R d mc ms) (mm_P X ad as h) (mm_Q X ad h.1.length Q) mc ms (mm_A X)
theorem mm_start {d : Nat} {M : mm_M} {as : List Value} {h : mm_Hp} {mc ms : Nat} {Q : Option Value → mm_Hp → Prop} (hp : plainName M.1.cls = true) (hl : (mm_sp as).length ≤ M.2.2.1) (k : mm_W d M mc ms Q 0 0 (0, mm_in as M.2.2.1, [], h)) : mm_Ct d M as h mc ms Q := by
  intro l X ad
  refine Met.ofW (cc := M.2.1) (maxL := M.2.2.1) (ret := M.2.2.2) hp rfl ?_
  intro p e s m args below meth c s₁ B hml hv
  obtain ⟨rfl, hT, hO, hR⟩ := hv
  have hts := atoms_spec (ws := .code M.1 M.2.1 M.2.2.1 M.2.2.2 :: mm_G) B.pre
  have hown : s.vm.findClass M.1.cls = some m.cls := findClass_of_methodNamed B.named
  rw [lg_entry_eq]
  exact k p l e s m _ below meth c X ad h.1.length ad s.heap [] _ ⟨B.exec, B.bytes, hml, B.returns, B.notSynchronized, hown, fun w hw => hts w (List.mem_cons_of_mem _ hw), (name_of_methodNamed B.named B.method).1, hT, hO⟩ (fun _ _ => rfl) (Nat.le_refl _) hR va_S.rf (mm_entry as hl)
end
section
/-! ===== straight code by evaluation ===== -/
def mm_all : List Prop → Prop
  | [] => True
  | [p] => p
  | p :: q :: ps => p ∧ mm_all (q :: ps)
theorem mm_all_app {a b : List Prop} (h : mm_all (a ++ b)) : mm_all a ∧ mm_all b := by
  induction a with
  | nil => exact ⟨trivial, h⟩
  | cons p ps ih =>
    cases ps with
    | nil =>
      cases b with
      | nil => exact ⟨h, trivial⟩
      | cons q b => exact h
    | cons q ps =>
      obtain ⟨h1, h2⟩ := h
      exact ⟨⟨h1, (ih h2).1⟩, (ih h2).2⟩
/-- a reference, or null -/
def mm_isr : Value → Bool
  | .ref _ => true
  | .retAddr _ => true
  | .float _ => true
  | .null => true
  | _ => false
theorem mm_isr_rv {X : mm_X} {ad : Nat → Nat} {v : Value} (h : mm_isr v = true) : (∃ a, mm_rv X ad v = .ref a) ∨ mm_rv X ad v = .null := by
  cases v <;> first | exact Or.inl ⟨_, rfl⟩ | exact Or.inr rfl | cases h
/-- instructions of the stack alone, one byte long -/
def mm_op (i : Instr) (st : List Value) : Option (List Prop × List Value) :=
  match i, st with
  | .iadd, .int y :: .int x :: r => some ([], .int (x + y) :: r)
  | .isub, .int y :: .int x :: r => some ([], .int (x - y) :: r)
  | .imul, .int y :: .int x :: r => some ([], .int (x * y) :: r)
  | .iand, .int y :: .int x :: r => some ([], .int (x &&& y) :: r)
  | .ior, .int y :: .int x :: r => some ([], .int (x ||| y) :: r)
  | .ixor, .int y :: .int x :: r => some ([], .int (x ^^^ y) :: r)
  | .idiv, .int y :: .int x :: r => some ([¬ y = 0], .int (x / y) :: r)
  | .irem, .int y :: .int x :: r => some ([¬ y = 0], .int (x - x / y * y) :: r)
  | .ineg, .int x :: r => some ([], .int (-x) :: r)
  | .ishl, .int y :: .int x :: r => some ([], .int (x <<< (y &&& 31)) :: r)
  | .ishr, .int y :: .int x :: r => some ([], .int (x >>> (y &&& 31)) :: r)
  | .iushr, .int y :: .int x :: r => some ([], .int ((x.toUInt32 >>> (y.toUInt32 &&& Int32.toUInt32 31)).toInt32) :: r)
  | .ladd, .long y :: .long x :: r => some ([], .long (x + y) :: r)
  | .lsub, .long y :: .long x :: r => some ([], .long (x - y) :: r)
  | .lmul, .long y :: .long x :: r => some ([], .long (x * y) :: r)
  | .ldiv, .long y :: .long x :: r => some ([¬ y = 0], .long (x / y) :: r)
  | .lrem, .long y :: .long x :: r => some ([¬ y = 0], .long (x - x / y * y) :: r)
  | .lcmp, .long y :: .long x :: r => some ([], .int (lg_cmp x y) :: r)
  | .i2l, .int x :: r => some ([], .long x.toInt64 :: r)
  | .l2i, .long x :: r => some ([], .int x.toInt32 :: r)
  | .i2b, .int x :: r => some ([], .int x.toInt8.toInt32 :: r)
  | .i2s, .int x :: r => some ([], .int x.toInt16.toInt32 :: r)
  | .i2c, .int x :: r => some ([], .int (x.toUInt32 % 65536).toInt32 :: r)
  | .dup, v :: r => match v.category with
    | 1 => some ([], v :: v :: r)
    | _ => none
  | .dup2, v :: w :: r => match v.category, w.category with
    | 1, 1 => some ([], v :: w :: v :: w :: r)
    | _, _ => none
  | .pop, v :: r => match v.category with
    | 1 => some ([], r)
    | _ => none
  | _, _ => none
section
variable {d : Nat} {M : mm_M} {mc ms : Nat} {Q : Option Value → mm_Hp → Prop} {nc ns pc : Nat} {lv : mm_L} {st : List Value} {h : mm_Hp}
theorem mm_op_ok {i : Instr} {cs : List Prop} {st' : List Value} (hx : mm_op i st = some (cs, st')) (hc : mm_all cs) (hd : decode M.2.1 pc = .ok (i, 1)) (k : mm_W d M mc ms Q nc ns (pc + 1, lv, st', h)) : mm_W d M mc ms Q nc ns (pc, lv, st, h) := by
  intro p l e s m args below meth c X ad0 n0 ad H locs ls C ha hn hR hS hl
  have k' := k p l e s m args below meth c X ad0 n0 ad H locs ls C ha hn hR hS hl
  unfold mm_op at hx
  split at hx
  · cases hx; exact lv_iadd C.1 C.2.1 hd k'
  · cases hx; exact lv_isub C.1 C.2.1 hd k'
  · cases hx; exact lv_imul C.1 C.2.1 hd k'
  · cases hx; exact lv_iand C.1 C.2.1 hd k'
  · cases hx; exact lv_ior C.1 C.2.1 hd k'
  · cases hx; exact lv_ixor C.1 C.2.1 hd k'
  · cases hx; exact lv_idiv C.1 C.2.1 hd hc k'
  · cases hx; exact lv_irem C.1 C.2.1 hd hc k'
  · cases hx; exact lv_ineg C.1 C.2.1 hd k'
  · cases hx; exact lv_ishl C.1 C.2.1 hd k'
  · cases hx; exact lv_ishr C.1 C.2.1 hd k'
  · cases hx; exact lv_iushr C.1 C.2.1 hd rfl k'
  · cases hx; exact lv_ladd C.1 C.2.1 hd k'
  · cases hx; exact lv_lsub C.1 C.2.1 hd k'
  · cases hx; exact lv_lmul C.1 C.2.1 hd k'
  · cases hx; exact lv_ldiv C.1 C.2.1 hd hc k'
  · cases hx; exact lv_lrem C.1 C.2.1 hd hc k'
  · cases hx; exact W.lcmp C.1 C.2.1 hd k'
  · cases hx; exact lv_i2l C.1 C.2.1 hd rfl k'
  · cases hx; exact lv_l2i C.1 C.2.1 hd rfl k'
  · cases hx; exact lv_i2b C.1 C.2.1 hd rfl k'
  · cases hx; exact lv_i2s C.1 C.2.1 hd rfl k'
  · cases hx; exact lv_i2c C.1 C.2.1 hd rfl k'
  · rename_i v r
    split at hx
    · rename_i hv
      cases hx; exact lv_dup C.1 C.2.1 hd ((mm_rv_cat v).trans hv) k'
    · cases hx
  · rename_i v w r
    split at hx
    · rename_i hv hw
      cases hx; exact lv_dup2_11 C.1 C.2.1 hd ((mm_rv_cat v).trans hv) ((mm_rv_cat w).trans hw) k'
    · cases hx
  · rename_i v r
    split at hx
    · rename_i hv
      cases hx; exact lv_pop C.1 C.2.1 hd ((mm_rv_cat v).trans hv) k'
    · cases hx
  · cases hx
/-- the locals' loads and stores -/
theorem mm_ldi {x : Int32} {i len : Nat} (hv : lv[i]? = some (some (.int x))) (hd : decode M.2.1 pc = .ok (.iload i, 2) ∧ len = 2 ∨ ∃ k : Fin 4, (k : Nat) = i ∧ decode M.2.1 pc = .ok (.iload_n k, 1) ∧ len = 1) (k : mm_W d M mc ms Q nc ns (pc + len, lv, .int x :: st, h)) : mm_W d M mc ms Q nc ns (pc, lv, st, h) := by
  intro p l e s m args below meth c X ad0 n0 ad H locs ls C ha hn hR hS hl
  have k' := k p l e s m args below meth c X ad0 n0 ad H locs ls C ha hn hR hS hl
  have hg := hl.2.2.2 _ _ hv
  rcases hd with ⟨h1, rfl⟩ | ⟨q, h0, h1, rfl⟩
  · exact lv_iload C.1 C.2.1 h1 hg k'
  · exact lv_iload_n C.1 C.2.1 h1 h0 hg k'
theorem mm_ldl {x : Int64} {i len : Nat} (hv : lv[i]? = some (some (.long x))) (hd : decode M.2.1 pc = .ok (.lload i, 2) ∧ len = 2 ∨ ∃ k : Fin 4, (k : Nat) = i ∧ decode M.2.1 pc = .ok (.lload_n k, 1) ∧ len = 1) (k : mm_W d M mc ms Q nc ns (pc + len, lv, .long x :: st, h)) : mm_W d M mc ms Q nc ns (pc, lv, st, h) := by
  intro p l e s m args below meth c X ad0 n0 ad H locs ls C ha hn hR hS hl
  have k' := k p l e s m args below meth c X ad0 n0 ad H locs ls C ha hn hR hS hl
  have hg := hl.2.2.2 _ _ hv
  rcases hd with ⟨h1, rfl⟩ | ⟨q, h0, h1, rfl⟩
  · exact lv_lload C.1 C.2.1 h1 hg k'
  · exact lv_lload_n C.1 C.2.1 h1 h0 hg k'
theorem mm_lda {v : Value} {i len : Nat} (hv : lv[i]? = some (some v)) (hr : mm_isr v = true) (hd : decode M.2.1 pc = .ok (.aload i, 2) ∧ len = 2 ∨ ∃ k : Fin 4, (k : Nat) = i ∧ decode M.2.1 pc = .ok (.aload_n k, 1) ∧ len = 1) (k : mm_W d M mc ms Q nc ns (pc + len, lv, v :: st, h)) : mm_W d M mc ms Q nc ns (pc, lv, st, h) := by
  intro p l e s m args below meth c X ad0 n0 ad H locs ls C ha hn hR hS hl
  have k' := k p l e s m args below meth c X ad0 n0 ad H locs ls C ha hn hR hS hl
  have hg := hl.2.2.2 _ _ hv
  simp only [List.map_cons] at k'
  rcases mm_isr_rv (X := X) (ad := ad) hr with ⟨a, ev⟩ | ev
  · rw [ev] at hg k'
    rcases hd with ⟨h1, rfl⟩ | ⟨q, h0, h1, rfl⟩
    · exact lv_aload C.1 C.2.1 h1 hg k'
    · exact lv_aload_n C.1 C.2.1 h1 h0 hg k'
  · rw [ev] at hg k'
    rcases hd with ⟨h1, rfl⟩ | ⟨q, h0, h1, rfl⟩
    · exact lv_aloadN C.1 C.2.1 h1 hg k'
    · exact lv_aload_nN C.1 C.2.1 h1 h0 hg k'
theorem mm_sti {x : Int32} {i len : Nat} (hp : mm_pr lv i = true) (hi : i < lv.length) (hd : decode M.2.1 pc = .ok (.istore i, 2) ∧ len = 2 ∨ ∃ k : Fin 4, (k : Nat) = i ∧ decode M.2.1 pc = .ok (.istore_n k, 1) ∧ len = 1) (k : mm_W d M mc ms Q nc ns (pc + len, lv.set i (some (.int x)), st, h)) : mm_W d M mc ms Q nc ns (pc, lv, .int x :: st, h) := by
  intro p l e s m args below meth c X ad0 n0 ad H locs ls C ha hn hR hS hl
  have hi' : i < M.2.2.1 := hl.1 ▸ hi
  rcases hd with ⟨h1, rfl⟩ | ⟨q, h0, h1, rfl⟩
  · exact lv_istore C.1 C.2.1 h1 hl.has hi' rfl (fun ls' hl' => k p l e s m args below meth c X ad0 n0 ad H locs ls' C ha hn hR hS (hl.st1 (v := .int x) hp hl'))
  · exact lv_istore_n C.1 C.2.1 h1 h0 hl.has hi' rfl (fun ls' hl' => k p l e s m args below meth c X ad0 n0 ad H locs ls' C ha hn hR hS (hl.st1 (v := .int x) hp hl'))
theorem mm_stl {x : Int64} {i len : Nat} (hp : mm_pr lv i = true) (hi : i + 1 < lv.length) (hd : decode M.2.1 pc = .ok (.lstore i, 2) ∧ len = 2 ∨ ∃ k : Fin 4, (k : Nat) = i ∧ decode M.2.1 pc = .ok (.lstore_n k, 1) ∧ len = 1) (k : mm_W d M mc ms Q nc ns (pc + len, (lv.set i (some (.long x))).set (i + 1) none, st, h)) : mm_W d M mc ms Q nc ns (pc, lv, .long x :: st, h) := by
  intro p l e s m args below meth c X ad0 n0 ad H locs ls C ha hn hR hS hl
  have hi' : i + 1 < M.2.2.1 := hl.1 ▸ hi
  rcases hd with ⟨h1, rfl⟩ | ⟨q, h0, h1, rfl⟩
  · exact lv_lstore C.1 C.2.1 h1 hl.has hi' rfl (fun ls' hl' => k p l e s m args below meth c X ad0 n0 ad H locs ls' C ha hn hR hS (hl.st2 (v := .long x) hp hl'))
  · exact lv_lstore_n C.1 C.2.1 h1 h0 hl.has hi' rfl (fun ls' hl' => k p l e s m args below meth c X ad0 n0 ad H locs ls' C ha hn hR hS (hl.st2 (v := .long x) hp hl'))
theorem mm_sta {v : Value} {i len : Nat} (hr : mm_isr v = true) (hp : mm_pr lv i = true) (hi : i < lv.length) (hd : decode M.2.1 pc = .ok (.astore i, 2) ∧ len = 2 ∨ ∃ k : Fin 4, (k : Nat) = i ∧ decode M.2.1 pc = .ok (.astore_n k, 1) ∧ len = 1) (k : mm_W d M mc ms Q nc ns (pc + len, lv.set i (some v), st, h)) : mm_W d M mc ms Q nc ns (pc, lv, v :: st, h) := by
  intro p l e s m args below meth c X ad0 n0 ad H locs ls C ha hn hR hS hl
  have hi' : i < M.2.2.1 := hl.1 ▸ hi
  have hs := fun ls' hl' => hl.st1 (ls' := ls') (v := v) (i := i) hp hl'
  simp only [List.map_cons]
  rcases mm_isr_rv (X := X) (ad := ad) hr with ⟨a, ev⟩ | ev
  · rw [ev] at hs ⊢
    rcases hd with ⟨h1, rfl⟩ | ⟨q, h0, h1, rfl⟩
    · exact lv_astore C.1 C.2.1 h1 hl.has hi' rfl (fun ls' hl' => k p l e s m args below meth c X ad0 n0 ad H locs ls' C ha hn hR hS (hs ls' hl'))
    · exact lv_astore_n C.1 C.2.1 h1 h0 hl.has hi' rfl (fun ls' hl' => k p l e s m args below meth c X ad0 n0 ad H locs ls' C ha hn hR hS (hs ls' hl'))
  · rw [ev] at hs ⊢
    rcases hd with ⟨h1, rfl⟩ | ⟨q, h0, h1, rfl⟩
    · exact lv_astoreN C.1 C.2.1 h1 hl.has hi' rfl (fun ls' hl' => k p l e s m args below meth c X ad0 n0 ad H locs ls' C ha hn hR hS (hs ls' hl'))
    · exact lv_astore_nN C.1 C.2.1 h1 h0 hl.has hi' rfl (fun ls' hl' => k p l e s m args below meth c X ad0 n0 ad H locs ls' C ha hn hR hS (hs ls' hl'))
theorem mm_inc {x v : Int32} {i : Nat} {n : Int} (hv : lv[i]? = some (some (.int x))) (hc : Int32.ofInt n = v) (hp : mm_pr lv i = true) (hd : decode M.2.1 pc = .ok (.iinc i n, 3)) (k : mm_W d M mc ms Q nc ns (pc + 3, lv.set i (some (.int (x + v))), st, h)) : mm_W d M mc ms Q nc ns (pc, lv, st, h) := by
  intro p l e s m args below meth c X ad0 n0 ad H locs ls C ha hn hR hS hl
  have hi' : i < M.2.2.1 := hl.1 ▸ (List.getElem?_eq_some_iff.mp hv).1
  obtain ⟨j, hj⟩ := List.getElem?_of_mem ((mm_as_in (X := X) (ad := ad)).mpr ⟨_, hv, rfl⟩)
  exact lv_iinc C.1 C.2.1 hd hl.has hj (by rw [hc]) hi' rfl (fun ls' hl' => k p l e s m args below meth c X ad0 n0 ad H locs ls' C ha hn hR hS (hl.st1 (v := .int (x + v)) hp hl'))
theorem mm_goto {off : Int} {tgt : Nat} (hd : decode M.2.1 pc = .ok (.goto off, 3)) (ht : (pc : Int) + off = (tgt : Int)) (k : mm_W d M mc ms Q nc ns (tgt, lv, st, h)) : mm_W d M mc ms Q nc ns (pc, lv, st, h) := by
  intro p l e s m args below meth c X ad0 n0 ad H locs ls C ha hn hR hS hl
  exact lv_goto C.1 C.2.1 hd ht (k p l e s m args below meth c X ad0 n0 ad H locs ls C ha hn hR hS hl)
end
end
section
/-! ===== fields and arrays over the picture ===== -/
def mm_ty : Nat → Nat → FieldType
  | 0 => tyX0
  | 1 => tyX1
  | 2 => tyX2
  | 3 => tyX3
  | 4 => tyX4
  | 5 => tyX5
  | 6 => tyX6
  | 7 => tyX7
  | 8 => tyX8
  | 9 => tyX9
  | 10 => tyX10
  | 11 => tyX11
  | _ => tyX12
theorem mm_win {ws : List Cond} (h : ws.all (fun w => decide (w ∈ lw_tbl) && goodWord w) = true) : ∀ w ∈ ws, w ∈ mm_G := by
  intro w hw
  have h1 := List.all_eq_true.mp h w hw
  simp only [Bool.and_eq_true, decide_eq_true_eq] at h1
  exact List.mem_filter.mpr h1
theorem mm_wat {w : Cond} (i : Nat) (h : lw_tbl[i]? = some w) (hg : goodWord w = true) : w ∈ mm_G := List.mem_filter.mpr ⟨List.mem_of_getElem? h, hg⟩
theorem mm_u0 : ∀ w ∈ u_ws RX0 TX0 11, w ∈ mm_G := mm_win (by decide +kernel)
theorem mm_u6 : ∀ w ∈ u_ws RX6 TX6 7, w ∈ mm_G := mm_win (by decide +kernel)
theorem mm_u7 : ∀ w ∈ u_ws RX7 TX7 7, w ∈ mm_G := mm_win (by decide +kernel)
theorem mm_u9 : ∀ w ∈ u_ws RX9 TX9 7, w ∈ mm_G := mm_win (by decide +kernel)
theorem mm_u10 : ∀ w ∈ u_ws RX10 TX10 3, w ∈ mm_G := mm_win (by decide +kernel)
theorem mm_u11 : ∀ w ∈ u_ws RX11 TX11 10, w ∈ mm_G := mm_win (by decide +kernel)
theorem mm_u12 : ∀ w ∈ u_ws RX12 TX12 49, w ∈ mm_G := mm_win (by decide +kernel)
theorem mm_cls {ci : Nat} {q : vw_C} (hc : vwCl[ci]? = some q) : (∀ k, k < q.2.2 → parseFieldDescriptor (q.2.1 k).2.2.1 = some (mm_ty ci k)) ∧ (∀ a, a < q.2.2 → ∀ b, b < q.2.2 → a ≠ b → (q.2.1 a).2.1 ≠ (q.2.1 b).2.1) ∧ (∀ w ∈ u_ws q.1 q.2.1 q.2.2, w ∈ mm_G) := by
  match ci, hc with
  | 0, hc => cases hc; exact ⟨tyX0_ok, nmX0, mm_u0⟩
  | 1, hc => cases hc; exact ⟨tyX1_ok, nmX1, fun w hw => by cases hw⟩
  | 2, hc => cases hc; exact ⟨tyX2_ok, nmX2, fun w hw => by cases hw⟩
  | 3, hc => cases hc; exact ⟨tyX3_ok, nmX3, fun w hw => by cases hw⟩
  | 4, hc => cases hc; exact ⟨tyX4_ok, nmX4, fun w hw => by cases hw⟩
  | 5, hc => cases hc; exact ⟨tyX5_ok, nmX5, fun w hw => by cases hw⟩
  | 6, hc => cases hc; exact ⟨tyX6_ok, nmX6, mm_u6⟩
  | 7, hc => cases hc; exact ⟨tyX7_ok, nmX7, mm_u7⟩
  | 8, hc => cases hc; exact ⟨tyX8_ok, nmX8, fun w hw => by cases hw⟩
  | 9, hc => cases hc; exact ⟨tyX9_ok, nmX9, mm_u9⟩
  | 10, hc => cases hc; exact ⟨tyX10_ok, nmX10, mm_u10⟩
  | 11, hc => cases hc; exact ⟨tyX11_ok, nmX11, mm_u11⟩
  | 12, hc => cases hc; exact ⟨tyX12_ok, nmX12, mm_u12⟩
  | n + 13, hc => cases hc
end
section
/-! ===== fields and arrays over the picture ===== -/
/-- a field's link: pool place idx of class own is field y of class number ci -/
def mm_lk (own : String) (idx ci y : Nat) : Prop := ∃ q : vw_C, vwCl[ci]? = some q ∧ y < q.2.2 ∧ Cond.fieldLink own idx q.1 (q.2.1 y).2.1 (q.2.1 y).2.2.1 ∈ mm_G ∧ (q.2.1 y).1 = q.1
theorem mm_set_self {α : Type} {l : List α} {k : Nat} {c : α} (h : l[k]? = some c) : l = l.set k c := by
  apply List.ext_getElem?
  intro j
  by_cases e : j = k
  · subst e
    rw [List.getElem?_set_self (List.getElem?_eq_some_iff.mp h).1, h]
  · rw [List.getElem?_set_ne (fun q => e q.symm)]
theorem mm_lay_len {X : mm_X} {ad : Nat → Nat} {h : mm_Hp} : (mm_lay X ad h).length = h.1.length := List.length_mapIdx
theorem mm_lay_set {X : mm_X} {ad : Nat → Nat} {h h' : mm_Hp} {k : Nat} {c c' : mm_Sh} {e : va_E} (hk : h.1[k]? = some c) (hl : h'.1 = h.1.set k c') (ho : ∀ j, j ≠ k → ∀ c, mm_cv X ad h' j c = mm_cv X ad h j c) (he : mm_cv X ad h' k c' = e) : mm_lay X ad h' = (mm_lay X ad h).set k (ad k, e) := by
  have hlt : k < h.1.length := (List.getElem?_eq_some_iff.mp hk).1
  have hlt2 : k < (mm_lay X ad h).length := by rw [mm_lay_len]; exact hlt
  refine List.ext_getElem? (fun j => ?_)
  have h1 := mm_lay_get (X := X) (ad := ad) (h := h') j
  have h2 := mm_lay_get (X := X) (ad := ad) (h := h) j
  rw [h1]
  by_cases ej : j = k
  · have h3 : h'.1[j]? = some c' := by rw [hl, ej]; exact List.getElem?_set_self hlt
    have h4 : ((mm_lay X ad h).set k (ad k, e))[j]? = some (ad k, e) := by rw [ej]; exact List.getElem?_set_self hlt2
    rw [h3, h4, ← he, ej]
    rfl
  · have h3 : h'.1[j]? = h.1[j]? := by rw [hl]; exact List.getElem?_set_ne (fun q => ej q.symm)
    have h4 : ((mm_lay X ad h).set k (ad k, e))[j]? = (mm_lay X ad h)[j]? := List.getElem?_set_ne (fun q => ej q.symm)
    rw [h3, h4, h2]
    have h5 := ho j ej
    generalize h.1[j]? = z
    cases z with
    | none => rw [Option.map_none, Option.map_none]
    | some c => rw [Option.map_some, Option.map_some, h5 c]
theorem mm_up_ne {g : Nat → Nat → Int32} {k j y : Nat} {a : Int32} (h : j ≠ k) : mm_up g k y a j = g j := by
  funext i
  simp [mm_up, beq_false_of_ne h]
theorem mm_up_eq (g : Nat → Nat → Int32) (k y : Nat) (a : Int32) : mm_up g k y a k = upd (g k) y a := by
  funext i
  by_cases e : i = y
  · subst e; simp [mm_up, upd]
  · simp [mm_up, upd, e, beq_false_of_ne e]
theorem mm_ul_ne {g : Nat → Nat → Int64} {k j y : Nat} {a : Int64} (h : j ≠ k) : mm_ul g k y a j = g j := by
  funext i
  simp [mm_ul, beq_false_of_ne h]
theorem mm_cv_up {X : mm_X} {ad : Nat → Nat} {h : mm_Hp} {k y j : Nat} {a : Int32} (hj : j ≠ k) (c : mm_Sh) : mm_cv X ad (h.1, mm_up h.2.1 k y a, h.2.2) j c = mm_cv X ad h j c := by
  cases c with
  | inl x => simp only [mm_cv, mm_up_ne hj]
  | inr o =>
    simp only [mm_cv]
    congr 3
    funext i c
    match c with
    | 0 => simp only [mm_cF, mm_up_ne hj]
    | 1 => rfl
    | 2 => rfl
    | c + 3 => rfl
theorem mm_cv_ul {X : mm_X} {ad : Nat → Nat} {h : mm_Hp} {k y j : Nat} {a : Int64} (hj : j ≠ k) (c : mm_Sh) : mm_cv X ad (h.1, h.2.1, mm_ul h.2.2.1 k y a, h.2.2.2) j c = mm_cv X ad h j c := by
  cases c with
  | inl x => rfl
  | inr o =>
    simp only [mm_cv]
    congr 3
    funext i c
    match c with
    | 0 => rfl
    | 1 => simp only [mm_cF, mm_ul_ne hj]
    | 2 => rfl
    | c + 3 => rfl
theorem mm_fs_set {ad : Nat → Nat} {h h' : mm_Hp} {k y : Nat} {fs fs' : List Nat} {v : Value} {c c' : Nat} (hy : fs[y]? = some c) (hf : fs' = fs.set y c') (hv : mm_cF ad h' k y c' = v) (ho : ∀ i, i ≠ y → ∀ c, mm_cF ad h' k i c = mm_cF ad h k i c) : fs'.mapIdx (fun j c => mm_cF ad h' k j c) = (fs.mapIdx (fun j c => mm_cF ad h k j c)).set y v := by
  have hlt : y < fs.length := (List.getElem?_eq_some_iff.mp hy).1
  subst hf
  apply List.ext_getElem?
  intro j
  by_cases e : j = y
  · subst e
    rw [List.getElem?_mapIdx, List.getElem?_set_self hlt, List.getElem?_set_self (by rw [List.length_mapIdx]; exact hlt), ← hv]
    rfl
  · rw [List.getElem?_mapIdx, List.getElem?_set_ne (fun q => e q.symm), List.getElem?_set_ne (fun q => e q.symm), List.getElem?_mapIdx]
    cases fs[j]? with
    | none => rfl
    | some c => simp [ho j e c]
section
variable {d : Nat} {M : mm_M} {mc ms : Nat} {Q : Option Value → mm_Hp → Prop} {nc ns pc : Nat} {lv : mm_L} {st : List Value} {h : mm_Hp}
theorem mm_get {k ci y idx cd : Nat} {fs : List Nat} (hlk : mm_lk M.1.cls idx ci y) (hs : h.1[k]? = some (.inr (ci, fs))) (hf : fs[y]? = some cd) (hd : decode M.2.1 pc = .ok (.getfield idx, 3)) (kk : mm_W d M mc ms Q nc ns (pc + 3, lv, mm_vF h k y cd :: st, h)) : mm_W d M mc ms Q nc ns (pc, lv, .ref k :: st, h) := by
  intro p l e s m args below meth c X ad0 n0 ad H locs ls C ha hn hR hS hl
  have k' := kk p l e s m args below meth c X ad0 n0 ad H locs ls C ha hn hR hS hl
  obtain ⟨hx, hb, hml, hr, hlo, hown, hts, hnm, hT, hO⟩ := C
  obtain ⟨q, hc, hy, hl1, hl2⟩ := hlk
  obtain ⟨hty, hnm2, hin⟩ := mm_cls hc
  simp only [List.map_cons, mm_rv_vF] at k'
  refine va_get (D := X.1) (cl := vwCl) (ci := ci) (C := q.1) (T := q.2.1) (N := q.2.2) hx hb hts hin hown hT.1 hR.1 k (mm_lay_at hs) hc y hy (hts _ hl1) (fun x hx => by rw [hl2] at hx; exact hx) (v := mm_cF ad h k y cd) ?_ hd k'
  rw [List.getElem?_mapIdx, hf]
  rfl
/-- a value that goes into a field, and what the picture is then -/
def mm_pf (h : mm_Hp) (k y ci : Nat) (fs : List Nat) (t : FieldType) (v : Value) (c : Nat) : Option (List Prop × mm_Hp) :=
  match t, v, c with
  | .int, .int a, 0 => some ([], h.1, mm_up h.2.1 k y a, h.2.2)
  | .boolean, .int a, 0 => some ([a = 0 ∨ a = 1], h.1, mm_up h.2.1 k y a, h.2.2)
  | .long, .long a, 1 => some ([], h.1, h.2.1, mm_ul h.2.2.1 k y a, h.2.2.2)
  | .object _, .ref q, c + 2 => some ([], h.1.set k (.inr (ci, fs.set y (q + 3))), h.2)
  | .array _, .ref q, c + 2 => some ([], h.1.set k (.inr (ci, fs.set y (q + 3))), h.2)
  | _, _, _ => none
theorem mm_cF_up {ad : Nat → Nat} {h : mm_Hp} {k y i : Nat} {a : Int32} (hi : i ≠ y) (c : Nat) : mm_cF ad (h.1, mm_up h.2.1 k y a, h.2.2) k i c = mm_cF ad h k i c := by
  match c with
  | 0 => simp [mm_cF, mm_up, beq_false_of_ne hi]
  | 1 => rfl
  | 2 => rfl
  | c + 3 => rfl
theorem mm_cF_ul {ad : Nat → Nat} {h : mm_Hp} {k y i : Nat} {a : Int64} (hi : i ≠ y) (c : Nat) : mm_cF ad (h.1, h.2.1, mm_ul h.2.2.1 k y a, h.2.2.2) k i c = mm_cF ad h k i c := by
  match c with
  | 0 => rfl
  | 1 => simp [mm_cF, mm_ul, beq_false_of_ne hi]
  | 2 => rfl
  | c + 3 => rfl
theorem mm_pf_ok {X : mm_X} {ad : Nat → Nat} {h h' : mm_Hp} {k y ci : Nat} {fs : List Nat} {t : FieldType} {v : Value} {c : Nat} {cs : List Prop} (hs : h.1[k]? = some (.inr (ci, fs))) (hf : fs[y]? = some c) (hx : mm_pf h k y ci fs t v c = some (cs, h')) (hc : mm_all cs) :
    narrow t (mm_rv X ad v) = mm_rv X ad v ∧ fits t (mm_rv X ad v) = true ∧ mm_lay X ad h' = (mm_lay X ad h).set k (ad k, .inr (ci, (fs.mapIdx (fun j c => mm_cF ad h k j c)).set y (mm_rv X ad v))) ∧ h'.1.length = h.1.length ∧ h'.2.2.2 = h.2.2.2 := by
  unfold mm_pf at hx
  split at hx
  · rename_i a
    cases hx
    refine ⟨rfl, rfl, mm_lay_set hs (mm_set_self hs) (fun j hj c => mm_cv_up hj c) ?_, rfl, rfl⟩
    simp only [mm_cv]
    rw [mm_fs_set (v := mm_rv X ad (.int a)) hf (mm_set_self hf) ?_ (fun i hi c => mm_cF_up hi c)]
    simp [mm_cF, mm_up, mm_rv]
  · rename_i a
    cases hx
    have hn : narrow .boolean (.int a) = .int a ∧ fits .boolean (.int a) = true := by
      rcases hc with rfl | rfl <;> exact ⟨by decide +kernel, by decide +kernel⟩
    refine ⟨hn.1, hn.2, mm_lay_set hs (mm_set_self hs) (fun j hj c => mm_cv_up hj c) ?_, rfl, rfl⟩
    simp only [mm_cv]
    rw [mm_fs_set (v := mm_rv X ad (.int a)) hf (mm_set_self hf) ?_ (fun i hi c => mm_cF_up hi c)]
    simp [mm_cF, mm_up, mm_rv]
  · rename_i a
    cases hx
    refine ⟨rfl, rfl, mm_lay_set hs (mm_set_self hs) (fun j hj c => mm_cv_ul hj c) ?_, rfl, rfl⟩
    simp only [mm_cv]
    rw [mm_fs_set (v := mm_rv X ad (.long a)) hf (mm_set_self hf) ?_ (fun i hi c => mm_cF_ul hi c)]
    simp [mm_cF, mm_ul, mm_rv]
  · rename_i q c
    cases hx
    refine ⟨rfl, rfl, mm_lay_set hs rfl (fun j hj c => by cases c <;> rfl) ?_, by rw [List.length_set], rfl⟩
    simp only [mm_cv]
    rw [mm_fs_set (h := h) (v := mm_rv X ad (.ref q)) hf rfl rfl (fun i hi c => by
      match c with
      | 0 => rfl
      | 1 => rfl
      | 2 => rfl
      | c + 3 => rfl)]
  · rename_i q c
    cases hx
    refine ⟨rfl, rfl, mm_lay_set hs rfl (fun j hj c => by cases c <;> rfl) ?_, by rw [List.length_set], rfl⟩
    simp only [mm_cv]
    rw [mm_fs_set (h := h) (v := mm_rv X ad (.ref q)) hf rfl rfl (fun i hi c => by
      match c with
      | 0 => rfl
      | 1 => rfl
      | 2 => rfl
      | c + 3 => rfl)]
  · cases hx
theorem mm_put {k ci y idx cd : Nat} {fs : List Nat} {v : Value} {cs : List Prop} {h' : mm_Hp} (hlk : mm_lk M.1.cls idx ci y) (hfin : ∀ q, vwCl[ci]? = some q → (q.2.1 y).2.2.2 = true → M.1.name = "<init>" ∧ q.1 = M.1.cls) (hs : h.1[k]? = some (.inr (ci, fs))) (hf : fs[y]? = some cd) (hx : mm_pf h k y ci fs (mm_ty ci y) v cd = some (cs, h')) (hcs : mm_all cs) (hd : decode M.2.1 pc = .ok (.putfield idx, 3)) (kk : mm_W d M mc ms Q nc ns (pc + 3, lv, st, h')) : mm_W d M mc ms Q nc ns (pc, lv, v :: .ref k :: st, h) := by
  intro p l e s m args below meth c X ad0 n0 ad H locs ls C ha hn hR hS hl
  have C' := C
  obtain ⟨hx0, hb, hml, hr, hlo, hown, hts, hnm, hT, hO⟩ := C'
  obtain ⟨q, hc, hy, hl1, hl2⟩ := hlk
  obtain ⟨hty, hnm2, hin⟩ := mm_cls hc
  obtain ⟨e1, e2, e3, e4, e5⟩ := mm_pf_ok (X := X) (ad := ad) hs hf hx hcs
  have hlen : y < (fs.mapIdx (fun j c => mm_cF ad h k j c)).length := by rw [List.length_mapIdx]; exact (List.getElem?_eq_some_iff.mp hf).1
  by_cases hfi : (q.2.1 y).2.2.2 = true
  · obtain ⟨hi1, hi2⟩ := hfin q hc hfi
    refine va_putF (D := X.1) (cl := vwCl) (ci := ci) (C := q.1) (T := q.2.1) (N := q.2.2) hx0 hb hts hin (mm_ty ci) hty hnm2 hown hT.1 hR.1 hR.2.1 hS k (mm_lay_at hs) hc y hy (hts _ hl1) (fun x hx => by rw [hl2] at hx; exact hx) hfi (hnm.trans hi1) (hl2.trans hi2) (hty y hy) e1 e2 hlen hd (fun H1 locs1 hP1 hD1 hS1 => ?_)
    exact kk p l e s m args below meth c X ad0 n0 ad H1 locs1 ls C ha (by rw [show (pc + 3, lv, st, h').2.2.2.1.length = h.1.length from e4]; exact hn) ⟨by rw [e3]; exact hP1, by rw [e3]; exact hD1, e5.trans hR.2.2⟩ hS1 hl
  · refine va_put (D := X.1) (cl := vwCl) (ci := ci) (C := q.1) (T := q.2.1) (N := q.2.2) hx0 hb hts hin (mm_ty ci) hty hnm2 hown hT.1 hR.1 hR.2.1 hS k (mm_lay_at hs) hc y hy (hts _ hl1) (fun x hx => by rw [hl2] at hx; exact hx) (by simpa using hfi) (hty y hy) e1 e2 hlen hd (fun H1 locs1 hP1 hD1 hS1 => ?_)
    exact kk p l e s m args below meth c X ad0 n0 ad H1 locs1 ls C ha (by rw [show (pc + 3, lv, st, h').2.2.2.1.length = h.1.length from e4]; exact hn) ⟨by rw [e3]; exact hP1, by rw [e3]; exact hD1, e5.trans hR.2.2⟩ hS1 hl
end
end
section
/-! ===== arrays over the picture ===== -/
section
variable {d : Nat} {M : mm_M} {mc ms : Nat} {Q : Option Value → mm_Hp → Prop} {nc ns pc : Nat} {lv : mm_L} {st : List Value} {h : mm_Hp}
theorem mm_iald {k n : Nat} {i : Int32} (hs : h.1[k]? = some (.inl (0, n))) (hi : vp_in i n) (hd : decode M.2.1 pc = .ok (.iaload, 1)) (kk : mm_W d M mc ms Q nc ns (pc + 1, lv, .int (h.2.1 k i.toNatClampNeg) :: st, h)) : mm_W d M mc ms Q nc ns (pc, lv, .int i :: .ref k :: st, h) := by
  intro p l e s m args below meth c X ad0 n0 ad H locs ls C ha hn hR hS hl
  have k' := kk p l e s m args below meth c X ad0 n0 ad H locs ls C ha hn hR hS hl
  obtain ⟨hx, hb, hml, hr, hlo, hown, hts, hnm, hT, hO⟩ := C
  exact va_iald (D := X.1) (cl := vwCl) hx hb hT.1 hR.1 k 0 (mm_lay_at hs) rfl hi hd k'
theorem mm_sald {u : UInt32} {i : Int32} (hi : vp_in i h.2.2.2.1) (hd : decode M.2.1 pc = .ok (.iaload, 1)) (kk : mm_W d M mc ms Q nc ns (pc + 1, lv, .int (h.2.2.2.2 i.toNatClampNeg) :: st, h)) : mm_W d M mc ms Q nc ns (pc, lv, .int i :: .float u :: st, h) := by
  intro p l e s m args below meth c X ad0 n0 ad H locs ls C ha hn hR hS hl
  have k' := kk p l e s m args below meth c X ad0 n0 ad H locs ls C ha hn hR hS hl
  obtain ⟨hx, hb, hml, hr, hlo, hown, hts, hnm, hT, hO⟩ := C
  have e1 : h.2.2.2 = X.2.2.2.2.2 := hR.2.2
  have hi : vp_in i h.2.2.2.1 := hi
  simp only [List.map_cons, mm_rv] at k' ⊢
  rw [e1] at hi
  rw [show (pc, lv, Value.int i :: Value.float u :: st, h).2.2.2.2.2.2.2 = X.2.2.2.2.2.2 from congrArg Prod.snd e1] at k'
  exact va_sld hx hb hO.2.2.1 (Nat.lt_of_lt_of_le hO.2.2.2.1 hO.2.2.2.2.1) (Nat.not_le.mpr hO.2.2.2.1) hS hi hd k'
theorem mm_slen {u : UInt32} (hd : decode M.2.1 pc = .ok (.arraylength, 1)) (kk : mm_W d M mc ms Q nc ns (pc + 1, lv, .int (nI h.2.2.2.1) :: st, h)) : mm_W d M mc ms Q nc ns (pc, lv, .float u :: st, h) := by
  intro p l e s m args below meth c X ad0 n0 ad H locs ls C ha hn hR hS hl
  have k' := kk p l e s m args below meth c X ad0 n0 ad H locs ls C ha hn hR hS hl
  obtain ⟨hx, hb, hml, hr, hlo, hown, hts, hnm, hT, hO⟩ := C
  have e1 : h.2.2.2 = X.2.2.2.2.2 := hR.2.2
  simp only [List.map_cons, mm_rv] at k' ⊢
  rw [show (pc, lv, Value.float u :: st, h).2.2.2.2.2.2.1 = X.2.2.2.2.2.1 from congrArg Prod.fst e1] at k'
  exact va_slen hx hb hO.2.2.1 (Nat.lt_of_lt_of_le hO.2.2.2.1 hO.2.2.2.2.1) (Nat.not_le.mpr hO.2.2.2.1) hS hd k'
theorem mm_zald {k n : Nat} {i : Int32} (hs : h.1[k]? = some (.inl (1, n))) (hi : vp_in i n) (hd : decode M.2.1 pc = .ok (.baload, 1)) (kk : mm_W d M mc ms Q nc ns (pc + 1, lv, .int (h.2.1 k i.toNatClampNeg) :: st, h)) : mm_W d M mc ms Q nc ns (pc, lv, .int i :: .ref k :: st, h) := by
  intro p l e s m args below meth c X ad0 n0 ad H locs ls C ha hn hR hS hl
  have k' := kk p l e s m args below meth c X ad0 n0 ad H locs ls C ha hn hR hS hl
  obtain ⟨hx, hb, hml, hr, hlo, hown, hts, hnm, hT, hO⟩ := C
  exact va_zald (D := X.1) (cl := vwCl) hx hb hT.1 hR.1 k 1 (mm_lay_at hs) rfl hi hd k'
theorem mm_ialn {k t n : Nat} (ht : t < 5) (hs : h.1[k]? = some (.inl (t, n))) (hd : decode M.2.1 pc = .ok (.arraylength, 1)) (kk : mm_W d M mc ms Q nc ns (pc + 1, lv, .int (nI n) :: st, h)) : mm_W d M mc ms Q nc ns (pc, lv, .ref k :: st, h) := by
  intro p l e s m args below meth c X ad0 n0 ad H locs ls C ha hn hR hS hl
  have k' := kk p l e s m args below meth c X ad0 n0 ad H locs ls C ha hn hR hS hl
  obtain ⟨hx, hb, hml, hr, hlo, hown, hts, hnm, hT, hO⟩ := C
  match t, ht, hs with
  | 0, _, hs => exact va_alen (D := X.1) (cl := vwCl) hx hb hT.1 hR.1 k 0 (mm_lay_at hs) rfl rfl hd k'
  | 1, _, hs => exact va_alen (D := X.1) (cl := vwCl) hx hb hT.1 hR.1 k 1 (mm_lay_at hs) rfl rfl hd k'
  | 2, _, hs => exact va_alen (D := X.1) (cl := vwCl) hx hb hT.1 hR.1 k 2 (mm_lay_at hs) rfl rfl hd k'
  | 3, _, hs => exact va_alen (D := X.1) (cl := vwCl) hx hb hT.1 hR.1 k 3 (mm_lay_at hs) rfl rfl hd k'
  | 4, _, hs => exact va_alen (D := X.1) (cl := vwCl) hx hb hT.1 hR.1 k 4 (mm_lay_at hs) rfl rfl hd k'
theorem mm_lay_ia {X : mm_X} {ad : Nat → Nat} {k t n j : Nat} {a : Int32} (ht : t < 2) (hs : h.1[k]? = some (.inl (t, n))) : mm_lay X ad (h.1, mm_up h.2.1 k j a, h.2.2) = (mm_lay X ad h).set k (ad k, .inl (X.2.1 t, n, .inl (upd (h.2.1 k) j a))) := by
  refine mm_lay_set hs (mm_set_self hs) (fun j hj c => mm_cv_up hj c) ?_
  simp only [mm_cv, mm_up_eq, if_pos ht]
theorem mm_iast {k n : Nat} {i a : Int32} (hs : h.1[k]? = some (.inl (0, n))) (hi : vp_in i n) (hd : decode M.2.1 pc = .ok (.iastore, 1)) (kk : mm_W d M mc ms Q nc ns (pc + 1, lv, st, (h.1, mm_up h.2.1 k i.toNatClampNeg a, h.2.2))) : mm_W d M mc ms Q nc ns (pc, lv, .int a :: .int i :: .ref k :: st, h) := by
  intro p l e s m args below meth c X ad0 n0 ad H locs ls C ha hn hR hS hl
  have C' := C
  obtain ⟨hx, hb, hml, hr, hlo, hown, hts, hnm, hT, hO⟩ := C'
  refine va_iast (D := X.1) (cl := vwCl) hx hb hT.1 hR.1 hR.2.1 hS k 0 (mm_lay_at hs) rfl hi hd (fun H1 locs1 hP1 hD1 hS1 => ?_)
  have e3 := mm_lay_ia (X := X) (ad := ad) (j := i.toNatClampNeg) (a := a) (by decide) hs
  exact kk p l e s m args below meth c X ad0 n0 ad H1 locs1 ls C ha hn ⟨by rw [e3]; exact hP1, by rw [e3]; exact hD1, hR.2.2⟩ hS1 hl
theorem mm_zast {k n : Nat} {i a : Int32} (hs : h.1[k]? = some (.inl (1, n))) (hi : vp_in i n) (hz : vp_nar .boolean a = a) (hd : decode M.2.1 pc = .ok (.bastore, 1)) (kk : mm_W d M mc ms Q nc ns (pc + 1, lv, st, (h.1, mm_up h.2.1 k i.toNatClampNeg a, h.2.2))) : mm_W d M mc ms Q nc ns (pc, lv, .int a :: .int i :: .ref k :: st, h) := by
  intro p l e s m args below meth c X ad0 n0 ad H locs ls C ha hn hR hS hl
  have C' := C
  obtain ⟨hx, hb, hml, hr, hlo, hown, hts, hnm, hT, hO⟩ := C'
  refine va_zast (D := X.1) (cl := vwCl) hx hb hT.1 hR.1 hR.2.1 hS k 1 (mm_lay_at hs) rfl hi hd (fun H1 locs1 hP1 hD1 hS1 => ?_)
  rw [hz] at hP1 hD1
  have e3 := mm_lay_ia (X := X) (ad := ad) (j := i.toNatClampNeg) (a := a) (by decide) hs
  exact kk p l e s m args below meth c X ad0 n0 ad H1 locs1 ls C ha hn ⟨by rw [e3]; exact hP1, by rw [e3]; exact hD1, hR.2.2⟩ hS1 hl
/-- a place of an array of references -/
theorem mm_aald {k t n : Nat} {i : Int32} {v : Value} (ht : t = 2 ∨ t = 3 ∨ t = 4) (hs : h.1[k]? = some (.inl (t, n))) (hi : vp_in i n) (hv : mm_rf (h.2.1 k i.toNatClampNeg) = v) (hd : decode M.2.1 pc = .ok (.aaload, 1)) (kk : mm_W d M mc ms Q nc ns (pc + 1, lv, v :: st, h)) : mm_W d M mc ms Q nc ns (pc, lv, .int i :: .ref k :: st, h) := by
  intro p l e s m args below meth c X ad0 n0 ad H locs ls C ha hn hR hS hl
  have k' := kk p l e s m args below meth c X ad0 n0 ad H locs ls C ha hn hR hS hl
  subst hv
  obtain ⟨hx, hb, hml, hr, hlo, hown, hts, hnm, hT, hO⟩ := C
  simp only [List.map_cons, mm_rv_rf] at k'
  rcases ht with rfl | rfl | rfl
  · exact va_aldq (D := X.1) (cl := vwCl) hx hb hT.1 hR.1 k 2 (mm_lay_at hs) rfl hi hd k'
  · exact va_aldq (D := X.1) (cl := vwCl) hx hb hT.1 hR.1 k 3 (mm_lay_at hs) rfl hi hd k'
  · have hlt : i.toNatClampNeg < n := Nat.not_le.mp fun q => hi (Or.inr q)
    exact W.aald (v := va_rf (mm_rd ad (h.2.1 k i.toNatClampNeg))) (ty := .array .int) hx hb (hR.1 k _ (mm_lay_at hs)) ((hT.1.2 4 _ rfl).1 n (fun j => va_rf (mm_rd ad (h.2.1 k j)))) rfl (fun q => by cases q) (by show ¬ (i < 0 ∨ (arrV _ _ _).slots.size ≤ _); rw [arrV_size]; exact hi) (by show (arrV _ _ _).slots[_]? = _; rw [arrV_read _ _ hlt]) rfl rfl hd k'
theorem mm_rd_ref {ad : Nat → Nat} {q : Nat} (hq : q + 1 < 2 ^ 31) : mm_rd ad (nI (q + 1)) = some (ad q) := by
  unfold mm_rd
  rw [if_neg (nI_nle (by omega) hq), nI_clamp hq]
  rfl
theorem mm_lay_ra {X : mm_X} {ad : Nat → Nat} {k t n j q : Nat} (ht : ¬ t < 2) (hq : q + 1 < 2 ^ 31) (hs : h.1[k]? = some (.inl (t, n))) : mm_lay X ad (h.1, mm_up h.2.1 k j (nI (q + 1)), h.2.2) = (mm_lay X ad h).set k (ad k, .inl (X.2.1 t, n, .inr (.inr (.inr (.inr (va_up (fun i => mm_rd ad (h.2.1 k i)) j (some (ad q)))))))) := by
  refine mm_lay_set hs (mm_set_self hs) (fun j hj c => mm_cv_up hj c) ?_
  simp only [mm_cv, if_neg ht]
  congr 7
  funext i
  rw [mm_up_eq]
  by_cases e : i = j
  · subst e; simp [upd, va_up, mm_rd_ref hq]
  · simp [upd, va_up, e]
/-- a cell goes into an array of references: a Text among Texts, a Kind or one under it among Kinds -/
theorem mm_aast {k t n q ci : Nat} {i : Int32} {fs : List Nat} (ht : t = 2 ∧ ci = 10 ∨ t = 3 ∧ ci = 2 ∨ t = 3 ∧ ∃ r : vw_C, vwCl[ci]? = some r ∧ Cond.castable r.1 "SchoolOnRaft$Kind" ∈ mm_N) (hs : h.1[k]? = some (.inl (t, n))) (hi : vp_in i n) (hq : h.1[q]? = some (.inr (ci, fs))) (hq2 : q + 1 < 2 ^ 31) (hd : decode M.2.1 pc = .ok (.aastore, 1)) (kk : mm_W d M mc ms Q nc ns (pc + 1, lv, st, (h.1, mm_up h.2.1 k i.toNatClampNeg (nI (q + 1)), h.2.2))) : mm_W d M mc ms Q nc ns (pc, lv, .ref q :: .int i :: .ref k :: st, h) := by
  intro p l e s m args below meth c X ad0 n0 ad H locs ls C ha hn hR hS hl
  have C' := C
  obtain ⟨hx, hb, hml, hr, hlo, hown, hts, hnm, hT, hO⟩ := C'
  have e3 := fun ht => mm_lay_ra (h := h) (X := X) (ad := ad) (t := t) (n := n) (j := i.toNatClampNeg) (q := q) ht hq2 hs
  rcases ht with ⟨rfl, rfl⟩ | ⟨rfl, rfl⟩ | ⟨rfl, r, hr1, hr2⟩
  · refine va_astq (D := X.1) (cl := vwCl) hx hb hT.1 hR.1 hR.2.1 hS k 2 q 10 (r := (RX10, TX10, 3)) (mm_lay_at hs) rfl (mm_lay_at hq) rfl hi hd (fun H1 locs1 hP1 hD1 hS1 => ?_)
    exact kk p l e s m args below meth c X ad0 n0 ad H1 locs1 ls C ha hn ⟨by rw [e3 (by decide)]; exact hP1, by rw [e3 (by decide)]; exact hD1, hR.2.2⟩ hS1 hl
  · refine va_astq (D := X.1) (cl := vwCl) hx hb hT.1 hR.1 hR.2.1 hS k 3 q 2 (r := (RX2, TX2, 0)) (mm_lay_at hs) rfl (mm_lay_at hq) rfl hi hd (fun H1 locs1 hP1 hD1 hS1 => ?_)
    exact kk p l e s m args below meth c X ad0 n0 ad H1 locs1 ls C ha hn ⟨by rw [e3 (by decide)]; exact hP1, by rw [e3 (by decide)]; exact hD1, hR.2.2⟩ hS1 hl
  · refine va_astqO (D := X.1) (cl := vwCl) hx hb hT.1 hR.1 hR.2.1 hS k 3 q ci (r := r) (E := "SchoolOnRaft$Kind") (mm_lay_at hs) rfl (hT.2.1 _ hr2) (mm_lay_at hq) hr1 hi hd (fun H1 locs1 hP1 hD1 hS1 => ?_)
    exact kk p l e s m args below meth c X ad0 n0 ad H1 locs1 ls C ha hn ⟨by rw [e3 (by decide)]; exact hP1, by rw [e3 (by decide)]; exact hD1, hR.2.2⟩ hS1 hl
end
end
section
/-! ===== calls over the picture ===== -/
theorem mm_AOA_spec {t : FieldType} {U : State} (h : va_AOA t U) :
    ∃ comp c k, U.vm.findClass (FieldType.array t).toString = some comp ∧ (U.vm.classes.findIdx? fun (x : Class) => match x.kind with | .array component _ => component == comp | _ => false) = some c ∧ U.vm.classes[c]? = some k ∧ k.kind = .array comp (.array t) ∧
      U.vm.findClass ("[" ++ (FieldType.array t).toString) = some c := by
  unfold va_AOA Cond.before at h
  simp only [Cond.holds, Cond.value, beq_iff_eq] at h
  cases hc : U.vm.findClass (FieldType.array t).toString with
  | none => simp [hc] at h
  | some comp =>
    simp only [hc, Option.bind_some, Option.bind_eq_some_iff, Option.map_eq_some_iff] at h
    obtain ⟨c, hi, k, hk, hb⟩ := h
    obtain ⟨hlt, hp, -⟩ := Array.findIdx?_eq_some_iff_getElem.mp hi
    have hkk : U.vm.classes[c] = k := (Array.getElem?_eq_some_iff.mp hk).2
    rw [hkk] at hp
    cases hkind : k.kind with
    | array component ty =>
      rw [hkind] at hb hp
      simp at hb hp
      exact ⟨comp, c, k, rfl, hi, hk, by rw [hkind, hp, hb.1], hb.2⟩
    | _ => rw [hkind] at hb; simp at hb
theorem mm_AOA_moved {t : FieldType} {u U : State} (hvm : u.vm.Alike U.vm) (h : va_AOA t u) : va_AOA t U := by
  obtain ⟨comp, c, k, h1, h2, h3, h4, h5⟩ := mm_AOA_spec h
  obtain ⟨k', hk', he⟩ := hvm.2.2 _ _ h3
  have hi : (U.vm.classes.findIdx? fun (x : Class) => match x.kind with | .array component _ => component == comp | _ => false) = some c := by
    have e1 := va_idx_bare U.vm comp
    have e2 := va_idx_bare u.vm comp
    have e3 : U.vm.bare = u.vm.bare := by first | exact hvm.bare_eq | exact hvm.bare_eq.symm
    rw [e3] at e1
    exact (e1.symm.trans e2).trans h2
  have hkind : k'.kind = .array comp (.array t) := by rw [he]; exact h4
  have f1 : U.vm.findClass (FieldType.array t).toString = some comp := by rw [hvm.findClass]; exact h1
  have f2 : U.vm.findClass ("[" ++ (FieldType.array t).toString) = some c := by rw [hvm.findClass]; exact h5
  unfold va_AOA Cond.before Cond.holds
  simp only [Cond.value]
  rw [f1, Option.bind_some]
  refine (congrArg (fun o : Option Nat => (o.bind (fun c => (U.vm.classes[c]?).map fun (k : Class) => match k.kind with | .array _ ty => decide (ty = FieldType.array t) && decide (U.vm.findClass ("[" ++ (FieldType.array t).toString) = some c) | _ => false) == some true)) hi).trans ?_
  simp [hk', hkind, f2]
theorem mm_N_warm {w : Cond} (hw : mm_isN w = true) {s U : State} (hW : s.WarmedH U.vm) (h : va_Nw w s) : va_Nw w U := by
  cases w <;> first | exact va_Nw.warmM hW h | exact va_Nw.warmC hW h | exact va_Nw.warmD hW h | cases hw
theorem mm_T.moved {X : mm_X} {s U : State} (hW : s.WarmedH U.vm) (h : mm_T X s) : mm_T X U := by
  obtain ⟨h1, h2, h3, h4, h5, h6, h7⟩ := h
  exact ⟨va_K.moved hW.alike h1, fun w hw => mm_N_warm (List.mem_filter.mp hw).2 hW (h2 w hw), va_AO.moved hW.alike h3, va_AO.moved hW.alike h4, mm_AOA_moved hW.alike h5, fun q hq => va_Nc.moved hW.alike (h6 q hq), fun i q hq => vk_R.warm hW (h7 i q hq)⟩
theorem mm_O.moved {X : mm_X} {s U : State} {H : Heap} (hv : s.vm.Alike U.vm) (h : mm_O X s H) : mm_O X U H :=
  ⟨vk_S.moved hv h.1, va_Z.moved hv h.2.1, va_X.moved hv h.2.2.1, h.2.2.2.1, h.2.2.2.2.1, h.2.2.2.2.2.imp (va_Z.moved hv) (va_Z.moved hv)⟩
theorem mm_O.kept {X : mm_X} {U : State} {H H1 : Heap} (h : mm_O X U H) (hz : H.size ≤ H1.size) (hq : ∀ a : Nat, a < H.size → ¬ mm_A X a → H1[a]? = H[a]?) : mm_O X U H1 :=
  ⟨vk_S.kept h.1 hq, va_Z.kept h.2.1 hq, va_X.kept h.2.2.1 (hq _ (Nat.lt_of_lt_of_le h.2.2.2.1 h.2.2.2.2.1) (Nat.not_le.mpr h.2.2.2.1)), h.2.2.2.1, Nat.le_trans h.2.2.2.2.1 hz, h.2.2.2.2.2.imp (fun z => va_Z.kept z hq) (fun z => va_Z.kept z hq)⟩
theorem mm_P_blind {X : mm_X} {ad : Nat → Nat} {as : List Value} {h : mm_Hp} : FrameBlind (mm_P X ad as h) := by
  intro a U g mk hp
  obtain ⟨h1, h2, h3, h4⟩ := hp
  exact ⟨h1, mm_T.moved (s := U) (U := U.calling g mk a) (State.WarmedH.refl U) h2, mm_O.moved (s := U) (U := U.calling g mk a) (Vm.Alike.refl U.vm) h3, h4⟩
/-- the references among the locals and on the stack are old ones -/
def mm_vs (n : Nat) (lv : mm_L) (st : List Value) : Prop := (∀ k : Nat, some (Value.ref k) ∈ lv → k < n) ∧ ∀ k : Nat, Value.ref k ∈ st → k < n
def mm_vl (b : Nat) : mm_L → Bool
  | [] => true
  | some (.ref k) :: lv => Nat.blt k b && mm_vl b lv
  | _ :: lv => mm_vl b lv
def mm_vt (b : Nat) : List Value → Bool
  | [] => true
  | .ref k :: st => Nat.blt k b && mm_vt b st
  | _ :: st => mm_vt b st
def mm_vb (b : Nat) (lv : mm_L) (st : List Value) : Bool := mm_vl b lv && mm_vt b st
theorem mm_vl_ok {b : Nat} : ∀ {lv : mm_L}, mm_vl b lv = true → ∀ k : Nat, some (Value.ref k) ∈ lv → k < b := by
  intro lv
  induction lv with
  | nil => intro _ k hk; exact (List.not_mem_nil hk).elim
  | cons x lv ih =>
    intro h k hk
    rcases List.mem_cons.mp hk with e | e
    · subst e
      simp only [mm_vl, Bool.and_eq_true] at h
      exact Nat.blt_eq.mp h.1
    · refine ih ?_ k e
      cases x with
      | none => exact h
      | some v =>
        cases v with
        | ref j => simp only [mm_vl, Bool.and_eq_true] at h; exact h.2
        | _ => exact h
theorem mm_vt_ok {b : Nat} : ∀ {st : List Value}, mm_vt b st = true → ∀ k : Nat, Value.ref k ∈ st → k < b := by
  intro st
  induction st with
  | nil => intro _ k hk; exact (List.not_mem_nil hk).elim
  | cons x st ih =>
    intro h k hk
    rcases List.mem_cons.mp hk with e | e
    · subst e
      simp only [mm_vt, Bool.and_eq_true] at h
      exact Nat.blt_eq.mp h.1
    · refine ih ?_ k e
      cases x with
      | ref j => simp only [mm_vt, Bool.and_eq_true] at h; exact h.2
      | _ => exact h
theorem mm_vs_b {b n : Nat} {lv : mm_L} {st : List Value} (h : mm_vb b lv st = true) (hn : b ≤ n) : mm_vs n lv st :=
  ⟨fun k hk => Nat.lt_of_lt_of_le (mm_vl_ok (Bool.and_eq_true_iff.mp h).1 k hk) hn, fun k hk => Nat.lt_of_lt_of_le (mm_vt_ok (Bool.and_eq_true_iff.mp h).2 k hk) hn⟩
theorem mm_rv_same {X : mm_X} {ad ad' : Nat → Nat} {n : Nat} (hag : ∀ k, k < n → ad' k = ad k) {v : Value} (hv : ∀ k, v = .ref k → k < n) : mm_rv X ad' v = mm_rv X ad v := by
  cases v <;> first | rfl | exact congrArg Value.ref (hag _ (hv _ rfl))
theorem mm_lh.ext {X : mm_X} {ad ad' : Nat → Nat} {ls : Array Slot} {nL n : Nat} {lv : mm_L} (h : mm_lh X ad ls nL lv) (hag : ∀ k, k < n → ad' k = ad k) (hv : ∀ k : Nat, some (Value.ref k) ∈ lv → k < n) : mm_lh X ad' ls nL lv :=
  ⟨h.1, h.2.1, h.2.2.1, fun i v hi => by rw [mm_rv_same hag (fun k e => hv k (e ▸ List.mem_of_getElem? hi))]; exact h.2.2.2 i v hi⟩
theorem mm_st_ext {X : mm_X} {ad ad' : Nat → Nat} {n : Nat} {st : List Value} (hag : ∀ k, k < n → ad' k = ad k) (hv : ∀ k : Nat, Value.ref k ∈ st → k < n) : st.map (mm_rv X ad') = st.map (mm_rv X ad) :=
  List.map_congr_left (fun v hm => mm_rv_same hag (fun k e => hv k (e ▸ hm)))
section
variable {d : Nat} {M : mm_M} {mc ms : Nat} {Q : Option Value → mm_Hp → Prop} {nc ns pc : Nat} {lv : mm_L} {st : List Value} {h : mm_Hp}
theorem mm_after {Q' : Option Value → mm_Hp → Prop} {mc' ms' : Nat} (hvs : mm_vs h.1.length lv st) (kk : ∀ v h', Q' v h' → mm_W d M mc ms Q (nc + mc') (ns + ms') (pc + 3, lv, v.toList ++ st, h'))
    {p : Program} {l : Launch} {e : Env} {s : State} {m : MethodId} {args : Array Value} {below : List Frame} {meth : Method} {c : Code} {X : mm_X} {ad0 : Nat → Nat} {n0 : Nat} {ad : Nat → Nat} {H : Heap} {locs : List Loc} {ls : Array Slot} {a : Array Value} {st0 : List Value}
    (C : mm_C p s m args meth c M X) (ha : ∀ k, k < n0 → ad k = ad0 k) (hn : n0 ≤ h.1.length) (hS : va_S (mm_A X) s.heap H locs) (hl : mm_lh X ad ls M.2.2.1 lv)
    (hr : va_Run p l e (mm_R d mc ms) s m args below meth c H locs nc ns mc' ms' (F0 m pc ls st0) (st.map (mm_rv X ad)) (mm_Q X ad h.1.length Q' a) (mm_A X)) :
    W p l e (mm_R d mc ms) s m args below meth c H locs nc ns (MQ below (mm_Q X ad0 n0 Q) args s mc ms (mm_A X)) (F0 m pc ls st0) := by
  intro T hT Xs
  obtain ⟨v, st₀, t, T', L, h0, X', hL, e1, e2, ⟨⟨v', h', ad', hv, hq, hRel, hag, hln⟩, hz, hk⟩, stp⟩ := hr T hT Xs
  cases hv
  rw [h0] at hz hk
  have hS' : va_S (mm_A X) s.heap T'.heap (locs ++ L) := ⟨Nat.le_trans hS.1 (by rw [e1]; exact hz), fun q h1 h2 => by rw [e1, hk q (Nat.lt_of_lt_of_le h1 hS.1) h2]; exact hS.2.1 q h1 h2, fun q hq => by
    rcases List.mem_append.mp hq with h | h
    · exact hS.2.2 q h
    · exact hL q h⟩
  have k' := kk v' h' hq p l e s m args below meth c X ad0 n0 ad' T'.heap (locs ++ L) ls C (fun k hk => (hag k (Nat.lt_of_lt_of_le hk hn)).trans (ha k hk)) (Nat.le_trans hn hln) (by rw [e1]; exact hRel) hS' (hl.ext hag hvs.1)
  obtain ⟨t2, a1, b1⟩ := k' T' rfl X'
  refine ⟨t2, stp t2 ?_, b1⟩
  have ef : F0 m (pc + 3) ls ((v'.toList ++ st).map (mm_rv X ad')) = { F0 m pc ls st0 with pc := (F0 m pc ls st0).pc + 3, stack := (v'.map (mm_rv X ad')).toList ++ st.map (mm_rv X ad) } := by
    rw [List.map_append, mm_st_ext hag hvs.2]
    cases v' <;> rfl
  rw [← ef]
  exact a1
/-- what a call asks of the callee N, of n parameters (an instance's own apart) -/
def mm_cw (N : mm_M) (n : Nat) : Prop := Cond.code N.1 N.2.1 N.2.2.1 N.2.2.2 ∈ mm_G ∧ Cond.initialized N.1.cls ∈ mm_G ∧ (N.1.cls ≠ "java/lang/invoke/MethodHandle" ∧ N.1.cls ≠ "java/lang/invoke/VarHandle" ∧ (parseMethodDescriptor N.1.desc).map (fun d => d.parameters.length) = some n) ∧ N.2.2.1 ≤ 22
theorem mm_good {N : mm_M} {n : Nat} (h : mm_cw N n) : GoodIn mm_G (.code N.1 N.2.1 N.2.2.1 N.2.2.2 :: mm_G) := by
  intro w hw
  rcases List.mem_cons.mp hw with e | e
  · rw [e]; exact ⟨h.1, good_of_word (List.mem_filter.mp h.1).2⟩
  · exact ⟨e, good_of_word (List.mem_filter.mp e).2⟩
theorem mm_room {d d' nL mc ms mc' ms' : Nat} (hd : d' + 1 ≤ d) (hn : nL ≤ 22) : (mm_R d' mc' ms').frames + 1 ≤ (mm_R d mc ms).frames ∧ 8 + (nL + 11) + (mm_R d' mc' ms').locals ≤ (mm_R d mc ms).locals := by
  refine ⟨hd, ?_⟩
  show 8 + (nL + 11) + (41 * d' + 32) ≤ 41 * d + 32
  omega
theorem mm_CB {N : mm_M} {n idx d' mc' ms' : Nat} {s : State} {args : Array Value} (hN : mm_cw N n) (hlk : Cond.methodLink M.1.cls idx N.1 ∈ mm_G) (hdd : d' + 1 ≤ d) (hts : ∀ w ∈ mm_G, w.before args s = true) : CallB (mm_R d mc ms) s args M.1.cls idx N.1 N.2.1 N.2.2.1 N.2.2.2 (.code N.1 N.2.1 N.2.2.1 N.2.2.2 :: mm_G) (mm_R d' mc' ms') mc' ms' n :=
  callB_of n hts (mm_good hN) rfl rfl rfl (hts _ hN.2.1) (hts _ hlk) hN.2.2.1 (mm_room hdd hN.2.2.2)
theorem mm_pre {X : mm_X} {ad : Nat → Nat} {s : State} {H : Heap} {locs : List Loc} {as : List Value} (hT : mm_T X s) (hO : mm_O X s s.heap) (hR : mm_Rel X ad h H) (hS : va_S (mm_A X) s.heap H locs) : ∀ U : State, U.heap = H → s.WarmedH U.vm → mm_P X ad as h (as.map (mm_rv X ad)).toArray U :=
  fun U hU hW => ⟨rfl, mm_T.moved hW hT, by rw [hU]; exact mm_O.moved hW.alike (mm_O.kept hO hS.1 hS.2.1), by rw [hU]; exact hR⟩
theorem mm_cats {X : mm_X} {ad : Nat → Nat} {st : List Value} (h : (st.map Value.category).sum ≤ 8) : ((st.map (mm_rv X ad)).map fun v => v.category).sum ≤ 8 := by
  rw [List.map_map, show (fun v : Value => v.category) ∘ mm_rv X ad = Value.category from funext (fun v => mm_rv_cat v)]
  exact h
/-- a static method -/
theorem mm_cS {N : mm_M} {as : List Value} {idx d' mc' ms' : Nat} {Q' : Option Value → mm_Hp → Prop} (hN : mm_cw N as.length) (hlk : Cond.methodLink M.1.cls idx N.1 ∈ mm_G) (hst : Cond.static N.1 ∈ mm_G) (hd : decode M.2.1 pc = .ok (.invokestatic idx, 3)) (hct : mm_Ct d' N as h mc' ms' Q') (hdd : d' + 1 ≤ d) (hm : nc + mc' ≤ mc ∧ ns + ms' ≤ ms) (hcat : (st.map Value.category).sum ≤ 8) (hvs : mm_vs h.1.length lv st)
    (kk : ∀ v h', Q' v h' → mm_W d M mc ms Q (nc + mc') (ns + ms') (pc + 3, lv, v.toList ++ st, h')) : mm_W d M mc ms Q nc ns (pc, lv, as.reverse ++ st, h) := by
  intro p l e s m args below meth c X ad0 n0 ad H locs ls C ha hn hR hS hl
  have C' := C
  obtain ⟨hx, hb, hml, hr, hlo, hown, hts, hnm, hT, hO⟩ := C'
  refine mm_after hvs kk C ha hn hS hl (a := (as.map (mm_rv X ad)).toArray) ?_
  refine va_runS (As := as.map (mm_rv X ad)) (n := as.length) ⟨hx, hb, hml, hown, hts⟩ (hct l X ad) ⟨mm_CB hN hlk hdd hts, hts _ hst⟩ ⟨mm_P_blind, mm_pre hT hO hR hS⟩ rfl (by rw [List.length_map]) hl.2.1 ?_ (lv_room (m := m) (pc := pc) (ls := ls) (rest := []) (mm_cats hcat)) hd hm
  show ((as.reverse ++ st).map (mm_rv X ad)) = _
  rw [List.map_append, List.map_reverse]
/-- a method of the receiver's own class -/
theorem mm_cV {N : mm_M} {as : List Value} {q ci idx d' mc' ms' : Nat} {fs : List Nat} {r : vw_C} {Q' : Option Value → mm_Hp → Prop} (hN : mm_cw N as.length) (hlk : Cond.methodLink M.1.cls idx N.1 ∈ mm_G) (hin : Cond.instanceMethod N.1 ∈ mm_G) (hsl : Cond.selects r.1 N.1 N.1 ∈ mm_G) (hrc : vwCl[ci]? = some r) (hq : h.1[q]? = some (.inr (ci, fs))) (hd : decode M.2.1 pc = .ok (.invokevirtual idx, 3)) (hct : mm_Ct d' N (.ref q :: as) h mc' ms' Q') (hdd : d' + 1 ≤ d) (hm : nc + mc' ≤ mc ∧ ns + ms' ≤ ms) (hcat : (st.map Value.category).sum ≤ 8) (hvs : mm_vs h.1.length lv st)
    (kk : ∀ v h', Q' v h' → mm_W d M mc ms Q (nc + mc') (ns + ms') (pc + 3, lv, v.toList ++ st, h')) : mm_W d M mc ms Q nc ns (pc, lv, as.reverse ++ .ref q :: st, h) := by
  intro p l e s m args below meth c X ad0 n0 ad H locs ls C ha hn hR hS hl
  have C' := C
  obtain ⟨hx, hb, hml, hr, hlo, hown, hts, hnm, hT, hO⟩ := C'
  refine mm_after hvs kk C ha hn hS hl (a := ((.ref q :: as).map (mm_rv X ad)).toArray) ?_
  refine va_runV (As := as.map (mm_rv X ad)) (C := r.1) (n := as.length) (b := ad q) ⟨hx, hb, hml, hown, hts⟩ (hct l X ad) ⟨mm_CB hN hlk hdd hts, hts _ hin, hts _ hsl⟩ ⟨mm_P_blind, va_recv hT.1 hR.1 hrc (mm_lay_at hq), mm_pre (as := .ref q :: as) hT hO hR hS⟩ rfl (by rw [List.length_map]) hl.2.1 ?_ (lv_room (m := m) (pc := pc) (ls := ls) (rest := []) (mm_cats hcat)) hd hm
  show ((as.reverse ++ .ref q :: st).map (mm_rv X ad)) = _
  rw [List.map_append, List.map_reverse]
  rfl
/-- a method that the receiver's class overrides or inherits: x is what the call names -/
theorem mm_cU {N : mm_M} {x : MethodName} {as : List Value} {q ci idx d' mc' ms' : Nat} {fs : List Nat} {r : vw_C} {Q' : Option Value → mm_Hp → Prop} (hN : mm_cw N as.length) (hlk : Cond.methodLink M.1.cls idx x ∈ mm_G) (hsm : Cond.sameMethod x.cls x.cls x.name x.desc ∈ mm_G) (hix : Cond.instanceMethod x ∈ mm_G) {b0 : ByteArray} {m0 : Nat} {r0 : Option FieldType} (h0 : Cond.code x b0 m0 r0 ∈ mm_G) (hxd : x.cls ≠ "java/lang/invoke/MethodHandle" ∧ x.cls ≠ "java/lang/invoke/VarHandle" ∧ x.desc = N.1.desc) (hin : Cond.instanceMethod N.1 ∈ mm_G) (hsl : Cond.selects r.1 x N.1 ∈ mm_G) (hrc : vwCl[ci]? = some r) (hq : h.1[q]? = some (.inr (ci, fs))) (hd : decode M.2.1 pc = .ok (.invokevirtual idx, 3)) (hct : mm_Ct d' N (.ref q :: as) h mc' ms' Q') (hdd : d' + 1 ≤ d) (hm : nc + mc' ≤ mc ∧ ns + ms' ≤ ms) (hcat : (st.map Value.category).sum ≤ 8) (hvs : mm_vs h.1.length lv st)
    (kk : ∀ v h', Q' v h' → mm_W d M mc ms Q (nc + mc') (ns + ms') (pc + 3, lv, v.toList ++ st, h')) : mm_W d M mc ms Q nc ns (pc, lv, as.reverse ++ .ref q :: st, h) := by
  intro p l e s m args below meth c X ad0 n0 ad H locs ls C ha hn hR hS hl
  have C' := C
  obtain ⟨hx, hb, hml, hr, hlo, hown, hts, hnm, hT, hO⟩ := C'
  refine mm_after hvs kk C ha hn hS hl (a := ((.ref q :: as).map (mm_rv X ad)).toArray) ?_
  have hG : GoodIn mm_G (va_wsO M.1.cls idx r.1 x.cls x N.1 (.code N.1 N.2.1 N.2.2.1 N.2.2.2 :: mm_G)) := by
    intro w hw
    unfold va_wsO at hw
    have hw' : w ∈ mm_G := by
      rcases List.mem_append.mp hw with e | e
      · simp only [List.mem_cons, List.not_mem_nil, or_false] at e
        rcases e with rfl | rfl | rfl | rfl | rfl | rfl
        · exact hlk
        · exact hsm
        · exact hix
        · exact hsl
        · exact hin
        · exact hN.2.1
      · exact (mm_good hN w e).1
    exact ⟨hw', good_of_word (List.mem_filter.mp hw').2⟩
  refine va_runU (As := as.map (mm_rv X ad)) (C := r.1) (owner := x.cls) (n := as.length) (b := ad q) ⟨hx, hb, hml, hown, hts⟩ (hct l X ad) (va_cwO as.length hts hG rfl rfl rfl (b0 := b0) (m0 := m0) (r0 := r0) h0 ⟨hxd.1, hxd.2.1, by rw [hxd.2.2]; exact hN.2.2.1.2.2⟩ (mm_room hdd hN.2.2.2)) ⟨mm_P_blind, va_recv hT.1 hR.1 hrc (mm_lay_at hq), mm_pre (as := .ref q :: as) hT hO hR hS⟩ rfl (by rw [List.length_map]) hl.2.1 ?_ (lv_room (m := m) (pc := pc) (ls := ls) (rest := []) (mm_cats hcat)) hd hm
  show ((as.reverse ++ .ref q :: st).map (mm_rv X ad)) = _
  rw [List.map_append, List.map_reverse]
  rfl
/-- super's method -/
theorem mm_cX {N : mm_M} {as : List Value} {q ci idx d' mc' ms' : Nat} {fs : List Nat} {r : vw_C} {Q' : Option Value → mm_Hp → Prop} (hN : mm_cw N as.length) (hlk : Cond.methodLink M.1.cls idx N.1 ∈ mm_G) (hsm : Cond.sameMethod N.1.cls N.1.cls N.1.name N.1.desc ∈ mm_G) (hsu : Cond.superclass M.1.cls N.1.cls ∈ mm_G) (hin : Cond.instanceMethod N.1 ∈ mm_G) (hni : N.1.name ≠ "<init>") (hrc : vwCl[ci]? = some r) (hq : h.1[q]? = some (.inr (ci, fs))) (hd : decode M.2.1 pc = .ok (.invokespecial idx, 3)) (hct : mm_Ct d' N (.ref q :: as) h mc' ms' Q') (hdd : d' + 1 ≤ d) (hm : nc + mc' ≤ mc ∧ ns + ms' ≤ ms) (hcat : (st.map Value.category).sum ≤ 8) (hvs : mm_vs h.1.length lv st)
    (kk : ∀ v h', Q' v h' → mm_W d M mc ms Q (nc + mc') (ns + ms') (pc + 3, lv, v.toList ++ st, h')) : mm_W d M mc ms Q nc ns (pc, lv, as.reverse ++ .ref q :: st, h) := by
  intro p l e s m args below meth c X ad0 n0 ad H locs ls C ha hn hR hS hl
  have C' := C
  obtain ⟨hx, hb, hml, hr, hlo, hown, hts, hnm, hT, hO⟩ := C'
  refine mm_after hvs kk C ha hn hS hl (a := ((.ref q :: as).map (mm_rv X ad)).toArray) ?_
  have hG : GoodIn mm_G (va_wsSU M.1.cls idx N.1 (.code N.1 N.2.1 N.2.2.1 N.2.2.2 :: mm_G)) := by
    intro w hw
    unfold va_wsSU at hw
    have hw' : w ∈ mm_G := by
      rcases List.mem_append.mp hw with e | e
      · simp only [List.mem_cons, List.not_mem_nil, or_false] at e
        rcases e with rfl | rfl | rfl | rfl | rfl
        · exact hlk
        · exact hsm
        · exact hsu
        · exact hin
        · exact hN.2.1
      · exact (mm_good hN w e).1
    exact ⟨hw', good_of_word (List.mem_filter.mp hw').2⟩
  refine va_runSU (As := as.map (mm_rv X ad)) (C := r.1) (cC := X.1.1 ci) (n := as.length) (b := ad q) (hT.1.1 ci r hrc).2 ⟨hx, hb, hml, hown, hts⟩ (hct l X ad) (va_cwSU as.length hts hG rfl rfl rfl ⟨hni, hN.2.2.1.2.2⟩ (mm_room hdd hN.2.2.2)) ⟨mm_P_blind, va_recv hT.1 hR.1 hrc (mm_lay_at hq), mm_pre (as := .ref q :: as) hT hO hR hS⟩ rfl (by rw [List.length_map]) hl.2.1 ?_ (lv_room (m := m) (pc := pc) (ls := ls) (rest := []) (mm_cats hcat)) hd hm
  show ((as.reverse ++ .ref q :: st).map (mm_rv X ad)) = _
  rw [List.map_append, List.map_reverse]
  rfl
/-- a constructor -/
theorem mm_cI {N : mm_M} {as : List Value} {q idx d' mc' ms' : Nat} {Q' : Option Value → mm_Hp → Prop} (hN : mm_cw N as.length) (hlk : Cond.methodLink M.1.cls idx N.1 ∈ mm_G) (hin : Cond.instanceMethod N.1 ∈ mm_G) (hni : N.1.name = "<init>" ∧ N.2.2.2 = none) (hd : decode M.2.1 pc = .ok (.invokespecial idx, 3)) (hct : mm_Ct d' N (.ref q :: as) h mc' ms' Q') (hdd : d' + 1 ≤ d) (hm : nc + mc' ≤ mc ∧ ns + ms' ≤ ms) (hcat : (st.map Value.category).sum ≤ 8) (hvs : mm_vs h.1.length lv st)
    (kk : ∀ v h', Q' v h' → mm_W d M mc ms Q (nc + mc') (ns + ms') (pc + 3, lv, v.toList ++ st, h')) : mm_W d M mc ms Q nc ns (pc, lv, as.reverse ++ .ref q :: st, h) := by
  intro p l e s m args below meth c X ad0 n0 ad H locs ls C ha hn hR hS hl
  have C' := C
  obtain ⟨hx, hb, hml, hr, hlo, hown, hts, hnm, hT, hO⟩ := C'
  refine mm_after hvs kk C ha hn hS hl (a := ((.ref q :: as).map (mm_rv X ad)).toArray) ?_
  have cb := mm_CB (M := M) (d := d) (mc := mc) (ms := ms) (mc' := mc') (ms' := ms') (d' := d') (s := s) (args := args) hN hlk hdd hts
  rw [hni.2] at cb
  refine va_runI (As := as.map (mm_rv X ad)) (n := as.length) (b := ad q) ⟨hx, hb, hml, hown, hts⟩ (by have := hct l X ad; rw [hni.2] at this; exact this) ⟨cb, hni.1, hts _ hin⟩ ⟨mm_P_blind, mm_pre (as := .ref q :: as) hT hO hR hS⟩ rfl (by rw [List.length_map]) hl.2.1 ?_ (lv_room (m := m) (pc := pc) (ls := ls) (rest := []) (mm_cats hcat)) hd hm
  show ((as.reverse ++ .ref q :: st).map (mm_rv X ad)) = _
  rw [List.map_append, List.map_reverse]
  rfl
/-- a nest mate's private constructor -/
theorem mm_cN {N : mm_M} {as : List Value} {q idx d' mc' ms' : Nat} {host : String} {Q' : Option Value → mm_Hp → Prop} (hN : mm_cw N as.length) (hlk : Cond.methodLinkNest M.1.cls idx N.1 host ∈ mm_N) (hin : Cond.instanceMethod N.1 ∈ mm_G) (hni : N.1.name = "<init>" ∧ N.2.2.2 = none) (hd : decode M.2.1 pc = .ok (.invokespecial idx, 3)) (hct : mm_Ct d' N (.ref q :: as) h mc' ms' Q') (hdd : d' + 1 ≤ d) (hm : nc + mc' ≤ mc ∧ ns + ms' ≤ ms) (hcat : (st.map Value.category).sum ≤ 8) (hvs : mm_vs h.1.length lv st)
    (kk : ∀ v h', Q' v h' → mm_W d M mc ms Q (nc + mc') (ns + ms') (pc + 3, lv, v.toList ++ st, h')) : mm_W d M mc ms Q nc ns (pc, lv, as.reverse ++ .ref q :: st, h) := by
  intro p l e s m args below meth c X ad0 n0 ad H locs ls C ha hn hR hS hl
  have C' := C
  obtain ⟨hx, hb, hml, hr, hlo, hown, hts, hnm, hT, hO⟩ := C'
  refine mm_after hvs kk C ha hn hS hl (a := ((.ref q :: as).map (mm_rv X ad)).toArray) ?_
  have cb : va_CN (mm_R d mc ms) s args M.1.cls idx N.1 host N.2.1 N.2.2.1 N.2.2.2 (.code N.1 N.2.1 N.2.2.1 N.2.2.2 :: mm_G) (mm_R d' mc' ms') mc' ms' as.length := va_cnB as.length hts (mm_good hN) rfl rfl rfl (hT.2.1 _ hlk) (hts _ hN.2.1) hN.2.2.1 (mm_room hdd hN.2.2.2)
  rw [hni.2] at cb
  refine va_runIN (As := as.map (mm_rv X ad)) (host := host) (n := as.length) (b := ad q) ⟨hx, hb, hml, hown, hts⟩ (by have := hct l X ad; rw [hni.2] at this; exact this) ⟨cb, hni.1, hts _ hin⟩ ⟨mm_P_blind, mm_pre (as := .ref q :: as) hT hO hR hS⟩ rfl (by rw [List.length_map]) hl.2.1 ?_ (lv_room (m := m) (pc := pc) (ls := ls) (rest := []) (mm_cats hcat)) hd hm
  show ((as.reverse ++ .ref q :: st).map (mm_rv X ad)) = _
  rw [List.map_append, List.map_reverse]
  rfl
/-- Object's constructor -/
theorem mm_cO {q idx : Nat} (hlk : Cond.methodLink M.1.cls idx Lib.objectInit ∈ mm_G) (hin : Cond.instanceMethod Lib.objectInit ∈ mm_G) (hcd : Cond.code Lib.objectInit ⟨#[0xb1]⟩ 1 none ∈ mm_G) (hd : decode M.2.1 pc = .ok (.invokespecial idx, 3)) (hdd : 1 ≤ d) (hcat : (st.map Value.category).sum ≤ 8) (kk : mm_W d M mc ms Q nc ns (pc + 3, lv, st, h)) : mm_W d M mc ms Q nc ns (pc, lv, .ref q :: st, h) := by
  intro p l e s m args below meth c X ad0 n0 ad H locs ls C ha hn hR hS hl
  have k' := kk p l e s m args below meth c X ad0 n0 ad H locs ls C ha hn hR hS hl
  obtain ⟨hx, hb, hml, hr, hlo, hown, hts, hnm, hT, hO⟩ := C
  have hroom := lv_room (m := m) (pc := pc) (ls := ls) (rest := []) (mm_cats (X := X) (ad := ad) hcat)
  refine W.objInit (a := ad q) (rest := st.map (mm_rv X ad)) hx hb hown (hts _ hlk) (hts _ hin) (hts _ hcd) rfl (by rw [hml]; exact hl.2.1) rfl hd hdd ?_ k'
  have h1 : 2 * (F0 m pc ls []).monitorRoom + ((st.map (mm_rv X ad)).map fun v => v.category).sum ≤ 8 := hroom
  show 2 * (F0 m pc ls []).monitorRoom + ((st.map (mm_rv X ad)).map fun v => v.category).sum + 12 ≤ 41 * d + 32
  omega
end
end
section
/-! ===== returns, branches, new cells, copies ===== -/
def mm_zc (g : Nat → Nat → Int32) (n : Nat) : Nat → Nat → Int32 := fun a b => bif a == n then 0 else g a b
def mm_zl (g : Nat → Nat → Int64) (n : Nat) : Nat → Nat → Int64 := fun a b => bif a == n then 0 else g a b
/-- the picture with a new cell, all 0 -/
def mm_ad (h : mm_Hp) (c : mm_Sh) : mm_Hp := (h.1 ++ [c], mm_zc h.2.1 h.1.length, mm_zl h.2.2.1 h.1.length, h.2.2.2)
/-- the references of the picture are cells of it -/
def mm_wf (h : mm_Hp) : Prop := ∀ (k : Nat) (c : mm_Sh), h.1[k]? = some c → (∀ a, c = .inl a → a.1 < 2 ∨ ∀ i, (h.2.1 k i).toNatClampNeg ≤ h.1.length) ∧ ∀ o, c = .inr o → ∀ f ∈ o.2, f < h.1.length + 3
theorem mm_zc_ne {g : Nat → Nat → Int32} {n j : Nat} (h : j ≠ n) : mm_zc g n j = g j := by
  funext i
  simp [mm_zc, beq_false_of_ne h]
theorem mm_zl_ne {g : Nat → Nat → Int64} {n j : Nat} (h : j ≠ n) : mm_zl g n j = g j := by
  funext i
  simp [mm_zl, beq_false_of_ne h]
def mm_ext (ad : Nat → Nat) (n q : Nat) : Nat → Nat := fun k => if k = n then q else ad k
theorem mm_ext_lt {ad : Nat → Nat} {n q k : Nat} (h : k < n) : mm_ext ad n q k = ad k := if_neg (Nat.ne_of_lt h)
theorem mm_cv_ad {X : mm_X} {ad : Nat → Nat} {h : mm_Hp} {c' c : mm_Sh} {q k : Nat} (hw : mm_wf h) (hk : h.1[k]? = some c) : mm_cv X (mm_ext ad h.1.length q) (mm_ad h c') k c = mm_cv X ad h k c := by
  have hlt : k < h.1.length := (List.getElem?_eq_some_iff.mp hk).1
  have hne : k ≠ h.1.length := Nat.ne_of_lt hlt
  obtain ⟨w1, w2⟩ := hw k c hk
  cases c with
  | inl a =>
    have e0 : (mm_ad h c').2.1 k = h.2.1 k := mm_zc_ne hne
    simp only [mm_cv, e0]
    by_cases ht : a.1 < 2
    · simp only [if_pos ht]
    · simp only [if_neg ht]
      congr 7
      funext i
      have h1 := (w1 a rfl).resolve_left ht i
      unfold mm_rd
      split
      · rfl
      · rename_i hx
        rw [mm_ext_lt]
        have : 0 < (h.2.1 k i).toNatClampNeg := by
          have h0 : (0 : Int32) < h.2.1 k i := by rw [← Int32.not_le]; exact hx
          have h2 : (0 : Int) < (h.2.1 k i).toInt := by simpa using Int32.lt_iff_toInt_lt.mp h0
          show 0 < (h.2.1 k i).toInt.toNat
          omega
        omega
  | inr o =>
    simp only [mm_cv]
    congr 2
    apply List.ext_getElem?
    intro j
    rw [List.getElem?_mapIdx, List.getElem?_mapIdx]
    have h1 := fun f hf => w2 o rfl f (List.mem_of_getElem? (i := j) hf)
    generalize o.2[j]? = z at h1
    cases z with
    | none => rw [Option.map_none, Option.map_none]
    | some f =>
      rw [Option.map_some, Option.map_some]
      have hf := h1 f rfl
      match f, hf with
      | 0, _ => exact congrArg (fun x => some (Value.int x)) (congrFun (mm_zc_ne hne) j)
      | 1, _ => exact congrArg (fun x => some (Value.long x)) (congrFun (mm_zl_ne hne) j)
      | 2, _ => rfl
      | f + 3, hf => exact congrArg (fun x => some (Value.ref x)) (mm_ext_lt (by omega))
theorem mm_lay_ad {X : mm_X} {ad : Nat → Nat} {h : mm_Hp} {c' : mm_Sh} {q : Nat} (hw : mm_wf h) : mm_lay X (mm_ext ad h.1.length q) (mm_ad h c') = mm_lay X ad h ++ [(q, mm_cv X (mm_ext ad h.1.length q) (mm_ad h c') h.1.length c')] := by
  refine List.ext_getElem? (fun j => ?_)
  rw [mm_lay_get]
  have e1 : (mm_ad h c').1 = h.1 ++ [c'] := rfl
  rw [e1]
  by_cases hj : j < h.1.length
  · rw [List.getElem?_append_left hj, List.getElem?_append_left (by rw [mm_lay_len]; exact hj), mm_lay_get]
    have h2 := fun c hc => mm_cv_ad (X := X) (ad := ad) (c' := c') (q := q) (k := j) (c := c) hw hc
    generalize h.1[j]? = z at h2
    cases z with
    | none => rw [Option.map_none, Option.map_none]
    | some c => rw [Option.map_some, Option.map_some, h2 c rfl, mm_ext_lt hj]
  · rw [List.getElem?_append_right (by omega), List.getElem?_append_right (by rw [mm_lay_len]; omega), mm_lay_len]
    by_cases e : j = h.1.length
    · subst e
      rw [Nat.sub_self]
      show some (mm_ext ad h.1.length q h.1.length, _) = some (q, _)
      rw [show mm_ext ad h.1.length q h.1.length = q from if_pos rfl]
    · obtain ⟨x, hx⟩ : ∃ x, j - h.1.length = x + 1 := ⟨j - h.1.length - 1, by omega⟩
      rw [hx]
      rfl
section
variable {d : Nat} {M : mm_M} {mc ms : Nat} {Q : Option Value → mm_Hp → Prop} {nc ns pc : Nat} {lv : mm_L} {st : List Value} {h : mm_Hp}
/-- returns -/
theorem mm_Qof {X : mm_X} {ad0 ad : Nat → Nat} {n0 : Nat} {v : Option Value} {args : Array Value} {s : State} {H : Heap} {locs : List Loc} (ha : ∀ k, k < n0 → ad k = ad0 k) (hn : n0 ≤ h.1.length) (hR : mm_Rel X ad h H) (hS : va_S (mm_A X) s.heap H locs) (hq : Q v h) : ∀ t : State, t.heap = H → s.WarmedH t.vm → mm_Q X ad0 n0 Q args s (.returned (v.map (mm_rv X ad))) t :=
  fun t ht _ => ⟨⟨v, h, ad, rfl, hq, by rw [ht]; exact hR, ha, hn⟩, hS.F ht⟩
theorem mm_ri {v : Int32} (hr : M.2.2.2 = some .int) (hd : decode M.2.1 pc = .ok (.ireturn, 1)) (hm : nc ≤ mc ∧ ns ≤ ms) (hq : Q (some (.int v)) h) : mm_W d M mc ms Q nc ns (pc, lv, [.int v], h) := by
  intro p l e s m args below meth c X ad0 n0 ad H locs ls C ha hn hR hS hl
  obtain ⟨hx, hb, hml, hr0, hlo, hown, hts, hnm, hT, hO⟩ := C
  exact W.widen hm.1 hm.2 (W.iret (v := v) hx hb (hr0.trans hr) (mm_Qof (v := some (.int v)) ha hn hR hS hq) hS.2.2 hd hlo)
theorem mm_rz {v : Int32} (hr : M.2.2.2 = some .boolean) (hd : decode M.2.1 pc = .ok (.ireturn, 1)) (hm : nc ≤ mc ∧ ns ≤ ms) (hz : v = 0 ∨ v = 1) (hq : Q (some (.int v)) h) : mm_W d M mc ms Q nc ns (pc, lv, [.int v], h) := by
  intro p l e s m args below meth c X ad0 n0 ad H locs ls C ha hn hR hS hl
  obtain ⟨hx, hb, hml, hr0, hlo, hown, hts, hnm, hT, hO⟩ := C
  exact W.widen hm.1 hm.2 (W.zret (v := v) hx hb (hr0.trans hr) (by rcases hz with rfl | rfl <;> decide +kernel) (mm_Qof (v := some (.int v)) ha hn hR hS hq) hS.2.2 hd hlo)
theorem mm_rc {v : Int32} {ty : FieldType} (hr : M.2.2.2 = some ty) (hz : narrow ty (.int v) = .int v) (hd : decode M.2.1 pc = .ok (.ireturn, 1)) (hm : nc ≤ mc ∧ ns ≤ ms) (hq : Q (some (.int v)) h) : mm_W d M mc ms Q nc ns (pc, lv, [.int v], h) := by
  intro p l e s m args below meth c X ad0 n0 ad H locs ls C ha hn hR hS hl
  obtain ⟨hx, hb, hml, hr0, hlo, hown, hts, hnm, hT, hO⟩ := C
  exact W.widen hm.1 hm.2 (W.zret (v := v) hx hb (hr0.trans hr) hz (mm_Qof (v := some (.int v)) ha hn hR hS hq) hS.2.2 hd hlo)
theorem mm_rl {v : Int64} (hr : M.2.2.2 = some .long) (hd : decode M.2.1 pc = .ok (.lreturn, 1)) (hm : nc ≤ mc ∧ ns ≤ ms) (hq : Q (some (.long v)) h) : mm_W d M mc ms Q nc ns (pc, lv, [.long v], h) := by
  intro p l e s m args below meth c X ad0 n0 ad H locs ls C ha hn hR hS hl
  obtain ⟨hx, hb, hml, hr0, hlo, hown, hts, hnm, hT, hO⟩ := C
  exact W.widen hm.1 hm.2 (W.lret (v := v) hx hb (hr0.trans hr) (mm_Qof (v := some (.long v)) ha hn hR hS hq) hS.2.2 hd hlo)
theorem mm_r0 (hr : M.2.2.2 = none) (hd : decode M.2.1 pc = .ok (.return_, 1)) (hm : nc ≤ mc ∧ ns ≤ ms) (hq : Q none h) : mm_W d M mc ms Q nc ns (pc, lv, [], h) := by
  intro p l e s m args below meth c X ad0 n0 ad H locs ls C ha hn hR hS hl
  obtain ⟨hx, hb, hml, hr0, hlo, hown, hts, hnm, hT, hO⟩ := C
  exact W.widen hm.1 hm.2 (W.vret hx hb (hr0.trans hr) (mm_Qof (v := none) ha hn hR hS hq) hS.2.2 hd hlo)
theorem mm_ra {v : Value} {rt : FieldType} (hr : M.2.2.2 = some rt) (hrt : (∃ n, rt = .object n) ∨ ∃ t, rt = .array t) (hv : mm_isr v = true) (hd : decode M.2.1 pc = .ok (.areturn, 1)) (hm : nc ≤ mc ∧ ns ≤ ms) (hq : Q (some v) h) : mm_W d M mc ms Q nc ns (pc, lv, [v], h) := by
  intro p l e s m args below meth c X ad0 n0 ad H locs ls C ha hn hR hS hl
  obtain ⟨hx, hb, hml, hr0, hlo, hown, hts, hnm, hT, hO⟩ := C
  exact W.widen hm.1 hm.2 (W.aret (v := mm_rv X ad v) hx hb (hr0.trans hr) hrt (by rcases mm_isr_rv (X := X) (ad := ad) hv with ⟨a, e⟩ | e; exact Or.inr ⟨a, e⟩; exact Or.inl e) (mm_Qof (v := some v) ha hn hR hS hq) hS.2.2 hd hlo)
/-- branches: the condition, and the stack behind it -/
def mm_br (i : Instr) (st : List Value) : Option (Prop × Prop × List Value) :=
  match i, st with
  | .ifCond .eq _, .int x :: r => some (x = 0, ¬ x = 0, r)
  | .ifCond .ne _, .int x :: r => some (¬ x = 0, x = 0, r)
  | .ifCond .lt _, .int x :: r => some (x < 0, ¬ x < 0, r)
  | .ifCond .ge _, .int x :: r => some (0 ≤ x, ¬ 0 ≤ x, r)
  | .ifCond .gt _, .int x :: r => some (0 < x, ¬ 0 < x, r)
  | .ifCond .le _, .int x :: r => some (x ≤ 0, ¬ x ≤ 0, r)
  | .if_icmp .eq _, .int y :: .int x :: r => some (x = y, ¬ x = y, r)
  | .if_icmp .ne _, .int y :: .int x :: r => some (¬ x = y, x = y, r)
  | .if_icmp .lt _, .int y :: .int x :: r => some (x < y, ¬ x < y, r)
  | .if_icmp .ge _, .int y :: .int x :: r => some (y ≤ x, ¬ y ≤ x, r)
  | .if_icmp .gt _, .int y :: .int x :: r => some (y < x, ¬ y < x, r)
  | .if_icmp .le _, .int y :: .int x :: r => some (x ≤ y, ¬ x ≤ y, r)
  | .ifnull _, .ref _ :: r => some (False, True, r)
  | .ifnull _, .null :: r => some (True, False, r)
  | .ifnonnull _, .ref _ :: r => some (True, False, r)
  | .ifnonnull _, .null :: r => some (False, True, r)
  | _, _ => none
def mm_off : Instr → Int
  | .ifCond _ o => o
  | .if_icmp _ o => o
  | .ifnull o => o
  | .ifnonnull o => o
  | _ => 0
theorem mm_br_ok {i : Instr} {P P' : Prop} {r : List Value} {tgt : Nat} (hx : mm_br i st = some (P, P', r)) (hd : decode M.2.1 pc = .ok (i, 3)) (ht : (pc : Int) + mm_off i = (tgt : Int)) (kt : P → mm_W d M mc ms Q nc ns (tgt, lv, r, h)) (kf : P' → mm_W d M mc ms Q nc ns (pc + 3, lv, r, h)) : mm_W d M mc ms Q nc ns (pc, lv, st, h) := by
  intro p l e s m args below meth c X ad0 n0 ad H locs ls C ha hn hR hS hl
  have kt' := fun hP => kt hP p l e s m args below meth c X ad0 n0 ad H locs ls C ha hn hR hS hl
  have kf' := fun hP => kf hP p l e s m args below meth c X ad0 n0 ad H locs ls C ha hn hR hS hl
  unfold mm_br at hx
  split at hx
  · cases hx; exact lv_if_eq C.1 C.2.1 hd ht kt' kf'
  · cases hx; exact lv_if_ne C.1 C.2.1 hd ht kt' kf'
  · cases hx; exact lv_if_lt C.1 C.2.1 hd ht kt' kf'
  · cases hx; exact lv_if_ge C.1 C.2.1 hd ht kt' kf'
  · cases hx; exact lv_if_gt C.1 C.2.1 hd ht kt' kf'
  · cases hx; exact lv_if_le C.1 C.2.1 hd ht kt' kf'
  · cases hx; exact lv_icmp_eq C.1 C.2.1 hd ht kt' kf'
  · cases hx; exact lv_icmp_ne C.1 C.2.1 hd ht kt' kf'
  · cases hx; exact lv_icmp_lt C.1 C.2.1 hd ht kt' kf'
  · cases hx; exact lv_icmp_ge C.1 C.2.1 hd ht kt' kf'
  · cases hx; exact lv_icmp_gt C.1 C.2.1 hd ht kt' kf'
  · cases hx; exact lv_icmp_le C.1 C.2.1 hd ht kt' kf'
  · cases hx; exact lv_ifnull C.1 C.2.1 hd (kf' trivial)
  · cases hx; exact lv_ifnullN C.1 C.2.1 hd ht (kt' trivial)
  · cases hx; exact lv_ifnonnull C.1 C.2.1 hd ht (kt' trivial)
  · cases hx; exact lv_ifnonnullN C.1 C.2.1 hd (kf' trivial)
  · cases hx
theorem mm_tsw {x : Int32} {dflt lo hi : Int} {offs : Array Int} {len : Nat} (hd : decode M.2.1 pc = .ok (.tableswitch dflt lo hi offs, len)) (hin : ∀ (off : Int) (tgt : Nat), ¬ x.toInt < lo → ¬ hi < x.toInt → offs[(x.toInt - lo).toNat]? = some off → (pc : Int) + off = (tgt : Int) → mm_W d M mc ms Q nc ns (tgt, lv, st, h)) (hof : ∀ i : Nat, (i : Int) ≤ hi - lo → ∃ (off : Int) (tgt : Nat), offs[i]? = some off ∧ (pc : Int) + off = (tgt : Int)) (hout : ∀ tgt : Nat, x.toInt < lo ∨ hi < x.toInt → (pc : Int) + dflt = (tgt : Int) → mm_W d M mc ms Q nc ns (tgt, lv, st, h)) (hdf : ∃ tgt : Nat, (pc : Int) + dflt = (tgt : Int)) : mm_W d M mc ms Q nc ns (pc, lv, .int x :: st, h) := by
  by_cases hx : x.toInt < lo ∨ hi < x.toInt
  · obtain ⟨tgt, ht⟩ := hdf
    intro p l e s m args below meth c X ad0 n0 ad H locs ls C ha hn hR hS hl
    exact lv_tableOut C.1 C.2.1 hd hx ht (hout tgt hx ht p l e s m args below meth c X ad0 n0 ad H locs ls C ha hn hR hS hl)
  · have h1 : ¬ x.toInt < lo := fun q => hx (Or.inl q)
    have h2 : ¬ hi < x.toInt := fun q => hx (Or.inr q)
    obtain ⟨off, tgt, ho, ht⟩ := hof (x.toInt - lo).toNat (by omega)
    intro p l e s m args below meth c X ad0 n0 ad H locs ls C ha hn hR hS hl
    exact lv_tableIn C.1 C.2.1 hd h1 h2 ho ht (hin off tgt h1 h2 ho ht p l e s m args below meth c X ad0 n0 ad H locs ls C ha hn hR hS hl)
end
end
section
/-! ===== new cells, instanceof, copies ===== -/
def mm_fc : FieldType → Nat
  | .long => 1
  | .object _ => 2
  | .array _ => 2
  | _ => 0
/-- a new object's fields -/
def mm_df (ci n : Nat) : List Nat := (List.range n).map (fun j => mm_fc (mm_ty ci j))
def mm_ok1 (t : FieldType) : Bool := match t with
  | .int => true
  | .boolean => true
  | .long => true
  | .object _ => true
  | .array _ => true
  | _ => false
def mm_fin1 (ci n : Nat) : Bool := (List.range n).all (fun j => mm_ok1 (mm_ty ci j))
theorem mm_zero_i {h : mm_Hp} {c : mm_Sh} {j : Nat} : (mm_ad h c).2.1 h.1.length j = 0 := by
  show mm_zc h.2.1 h.1.length h.1.length j = 0
  simp [mm_zc]
theorem mm_zero_l {h : mm_Hp} {c : mm_Sh} {j : Nat} : (mm_ad h c).2.2.1 h.1.length j = 0 := by
  show mm_zl h.2.2.1 h.1.length h.1.length j = 0
  simp [mm_zl]
section
variable {d : Nat} {M : mm_M} {mc ms : Nat} {Q : Option Value → mm_Hp → Prop} {nc ns pc : Nat} {lv : mm_L} {st : List Value} {h : mm_Hp}
theorem mm_new {ci idx : Nat} {r : vw_C} (hrc : vwCl[ci]? = some r) (hf1 : mm_fin1 ci r.2.2 = true) (hcl : Cond.classLink M.1.cls idx r.1 ∈ mm_G) (hib : Cond.instantiable r.1 r.2.2 ∈ mm_G) (hini : Cond.initialized r.1 ∈ mm_G) (hd : decode M.2.1 pc = .ok (.new idx, 3)) (hm : nc + 1 ≤ mc ∧ ns + r.2.2 ≤ ms) (hw : mm_wf h) (hvs : mm_vs h.1.length lv st)
    (kk : mm_W d M mc ms Q (nc + 1) (ns + r.2.2) (pc + 3, lv, .ref h.1.length :: st, mm_ad h (.inr (ci, mm_df ci r.2.2)))) : mm_W d M mc ms Q nc ns (pc, lv, st, h) := by
  intro p l e s m args below meth c X ad0 n0 ad H locs ls C ha hn hR hS hl
  have C' := C
  obtain ⟨hx, hb, hml, hr, hlo, hown, hts, hnm, hT, hO⟩ := C'
  obtain ⟨hty, hnm2, hin⟩ := mm_cls hrc
  have hA : ∀ q : Nat, s.heap.size ≤ q → mm_A X q := fun q hq => Nat.le_trans hO.2.2.2.2.1 hq
  have hfs : ∀ q : Nat, mm_cv X (mm_ext ad h.1.length q) (mm_ad h (.inr (ci, mm_df ci r.2.2))) h.1.length (.inr (ci, mm_df ci r.2.2)) = .inr (ci, (List.range r.2.2).map (fun j => defaultValue (mm_ty ci j))) := by
    intro q
    simp only [mm_cv]
    congr 2
    apply List.ext_getElem?
    intro j
    rw [List.getElem?_mapIdx, List.getElem?_map]
    unfold mm_df
    rw [List.getElem?_map]
    by_cases hj : j < r.2.2
    · rw [List.getElem?_range hj, Option.map_some, Option.map_some, Option.map_some]
      have h1 := List.all_eq_true.mp hf1 j (List.mem_range.mpr hj)
      generalize mm_ty ci j = t at h1
      cases t <;> first | (cases h1; done) | rfl | exact congrArg (fun x => some (Value.int x)) mm_zero_i | exact congrArg (fun x => some (Value.long x)) mm_zero_l
    · rw [List.getElem?_eq_none (by rw [List.length_range]; omega)]
      rfl
  refine va_new (D := X.1) (cl := vwCl) (ci := ci) (C := r.1) (T := r.2.1) (N := r.2.2) (fs := (List.range r.2.2).map (fun j => defaultValue (mm_ty ci j))) hx hb hts hin (mm_ty ci) hty hown (hts _ hcl) (hts _ hib) (hts _ hini) hT.1 hR.1 hR.2.1 hS hA hrc ?_ hm.1 hm.2 hd (fun q H1 hP1 hD1 hS1 => ?_)
  · intro j hj
    simp [vp_V, hj]
  · have hag : ∀ k, k < h.1.length → mm_ext ad h.1.length q k = ad k := fun k hk => mm_ext_lt hk
    have e3 := mm_lay_ad (X := X) (ad := ad) (c' := .inr (ci, mm_df ci r.2.2)) (q := q) hw
    rw [hfs q] at e3
    have k' := kk p l e s m args below meth c X ad0 n0 (mm_ext ad h.1.length q) H1 locs ls C (fun k hk => (hag k (Nat.lt_of_lt_of_le hk hn)).trans (ha k hk)) (by show n0 ≤ (h.1 ++ [_]).length; rw [List.length_append]; exact Nat.le_trans hn (Nat.le_add_right _ _)) ⟨by rw [e3]; exact hP1, by rw [e3]; exact hD1, hR.2.2⟩ hS1 (hl.ext hag hvs.1)
    simp only [List.map_cons, mm_st_ext hag hvs.2] at k'
    rw [show mm_rv X (mm_ext ad h.1.length q) (.ref h.1.length) = .ref q from congrArg Value.ref (if_pos rfl)] at k'
    exact k'
/-- the array class of a type is one -/
theorem mm_uniq {X : mm_X} {s : State} {t : Nat} {ty : FieldType} {cA : ClassId} (hT : va_K X.1 vwCl (mm_tys X.2.1) s) (ht : (mm_tys X.2.1)[t]? = some (X.2.1 t, ty)) (hK : va_K X.1 vwCl (mm_tys X.2.1 ++ [(cA, ty)]) s) : cA = X.2.1 t := by
  have h1 := (hT.2 t _ ht).2
  have h2 := (hK.2 5 (cA, ty) rfl).2
  cases ty with
  | object C =>
    obtain ⟨_, _, _, _, _, e1⟩ := h1
    obtain ⟨_, _, _, _, _, e2⟩ := h2
    exact Option.some.inj (e2.symm.trans e1)
  | _ => exact Option.some.inj (Eq.trans (Eq.symm h2) h1)
theorem mm_addcell {nc' ns' : Nat} {c' : mm_Sh} {pc' : Nat} (hw : mm_wf h) (hvs : mm_vs h.1.length lv st) (kk : mm_W d M mc ms Q nc' ns' (pc', lv, .ref h.1.length :: st, mm_ad h c'))
    {p : Program} {l : Launch} {e : Env} {s : State} {m : MethodId} {args : Array Value} {below : List Frame} {meth : Method} {c : Code} {X : mm_X} {ad0 : Nat → Nat} {n0 : Nat} {ad : Nat → Nat} {H1 : Heap} {locs : List Loc} {ls : Array Slot} {q : Nat} {ev : va_E}
    (C : mm_C p s m args meth c M X) (ha : ∀ k, k < n0 → ad k = ad0 k) (hn : n0 ≤ h.1.length) (hR3 : h.2.2.2 = X.2.2.2.2.2) (hl : mm_lh X ad ls M.2.2.1 lv) (hev : mm_cv X (mm_ext ad h.1.length q) (mm_ad h c') h.1.length c' = ev) (hP1 : va_P X.1 vwCl (mm_lay X ad h ++ [(q, ev)]) H1) (hD1 : va_D (mm_A X) (mm_lay X ad h ++ [(q, ev)])) (hS1 : va_S (mm_A X) s.heap H1 locs) :
    W p l e (mm_R d mc ms) s m args below meth c H1 locs nc' ns' (MQ below (mm_Q X ad0 n0 Q) args s mc ms (mm_A X)) (F0 m pc' ls (.ref q :: st.map (mm_rv X ad))) := by
  have hag : ∀ k, k < h.1.length → mm_ext ad h.1.length q k = ad k := fun k hk => mm_ext_lt hk
  have e3 := mm_lay_ad (X := X) (ad := ad) (c' := c') (q := q) hw
  rw [hev] at e3
  have k' := kk p l e s m args below meth c X ad0 n0 (mm_ext ad h.1.length q) H1 locs ls C (fun k hk => (hag k (Nat.lt_of_lt_of_le hk hn)).trans (ha k hk)) (by show n0 ≤ (h.1 ++ [_]).length; rw [List.length_append]; exact Nat.le_trans hn (Nat.le_add_right _ _)) ⟨by rw [e3]; exact hP1, by rw [e3]; exact hD1, hR3⟩ hS1 (hl.ext hag hvs.1)
  simp only [List.map_cons, mm_st_ext hag hvs.2] at k'
  rw [show mm_rv X (mm_ext ad h.1.length q) (.ref h.1.length) = .ref q from congrArg Value.ref (if_pos rfl)] at k'
  exact k'
theorem mm_cell0 {X : mm_X} {ad : Nat → Nat} {t n : Nat} (ht : t < 2) : mm_cv X ad (mm_ad h (.inl (t, n))) h.1.length (.inl (t, n)) = .inl (X.2.1 t, n, .inl (fun _ => 0)) := by
  simp only [mm_cv, if_pos ht]
  congr 4
  funext i
  exact mm_zero_i
theorem mm_cellq {X : mm_X} {ad : Nat → Nat} {t n : Nat} (ht : ¬ t < 2) : mm_cv X ad (mm_ad h (.inl (t, n))) h.1.length (.inl (t, n)) = .inl (X.2.1 t, n, .inr (.inr (.inr (.inr (fun _ => none))))) := by
  simp only [mm_cv, if_neg ht]
  congr 7
  funext i
  rw [mm_zero_i]
  rfl
theorem mm_newi {n : Int32} {N : Nat} (harr : Cond.arrayClass .int ∈ mm_G) (hn0 : ¬ n < 0) (hN : n.toNatClampNeg = N) (hb0 : N ≤ 100000) (hd : decode M.2.1 pc = .ok (.newarray .int, 2)) (hm : nc + 1 ≤ mc ∧ ns + N ≤ ms) (hw : mm_wf h) (hvs : mm_vs h.1.length lv st)
    (kk : mm_W d M mc ms Q (nc + 1) (ns + N) (pc + 2, lv, .ref h.1.length :: st, mm_ad h (.inl (0, N)))) : mm_W d M mc ms Q nc ns (pc, lv, .int n :: st, h) := by
  intro p l e s m args below meth c X ad0 n0 ad H locs ls C ha hn hR hS hl
  have C' := C
  obtain ⟨hx, hb, hml, hr, hlo, hown, hts, hnm, hT, hO⟩ := C'
  have hA : ∀ q : Nat, s.heap.size ≤ q → mm_A X q := fun q hq => Nat.le_trans hO.2.2.2.2.1 hq
  refine va_newa (D := X.1) (cl := vwCl) (atype := .int) (ty := .int) (a0 := (N, .inl (fun _ => 0))) hx hb (hts _ harr) rfl hT.1 hR.1 hR.2.1 hS hA (fun cA => rfl) hn0 hN (by show N * 4 ≤ _; omega) hm.1 hm.2 hd (fun q cA H1 hK1 hP1 hD1 hS1 => ?_)
  have ec := mm_uniq (t := 0) hT.1 rfl hK1
  subst ec
  exact mm_addcell hw hvs kk C ha hn hR.2.2 hl (mm_cell0 (by decide)) hP1 hD1 hS1
theorem mm_newz {n : Int32} {N : Nat} (harr : Cond.arrayClass .boolean ∈ mm_G) (hn0 : ¬ n < 0) (hN : n.toNatClampNeg = N) (hb0 : N ≤ 100000) (hd : decode M.2.1 pc = .ok (.newarray .boolean, 2)) (hm : nc + 1 ≤ mc ∧ ns + N ≤ ms) (hw : mm_wf h) (hvs : mm_vs h.1.length lv st)
    (kk : mm_W d M mc ms Q (nc + 1) (ns + N) (pc + 2, lv, .ref h.1.length :: st, mm_ad h (.inl (1, N)))) : mm_W d M mc ms Q nc ns (pc, lv, .int n :: st, h) := by
  intro p l e s m args below meth c X ad0 n0 ad H locs ls C ha hn hR hS hl
  have C' := C
  obtain ⟨hx, hb, hml, hr, hlo, hown, hts, hnm, hT, hO⟩ := C'
  have hA : ∀ q : Nat, s.heap.size ≤ q → mm_A X q := fun q hq => Nat.le_trans hO.2.2.2.2.1 hq
  refine va_newa (D := X.1) (cl := vwCl) (atype := .boolean) (ty := .boolean) (a0 := (N, .inl (fun _ => 0))) hx hb (hts _ harr) rfl hT.1 hR.1 hR.2.1 hS hA (fun cA => rfl) hn0 hN (by show N * 1 ≤ _; omega) hm.1 hm.2 hd (fun q cA H1 hK1 hP1 hD1 hS1 => ?_)
  have ec := mm_uniq (t := 1) hT.1 rfl hK1
  subst ec
  exact mm_addcell hw hvs kk C ha hn hR.2.2 hl (mm_cell0 (by decide)) hP1 hD1 hS1
/-- an array of Texts (2), of Kinds (3) -/
theorem mm_newq {n : Int32} {N t idx : Nat} {Cn : String} (ht : t = 2 ∧ Cn = "SchoolOnRaft$Text" ∨ t = 3 ∧ Cn = "SchoolOnRaft$Kind") (hcl : Cond.classLink M.1.cls idx Cn ∈ mm_G) (hn0 : ¬ n < 0) (hN : n.toNatClampNeg = N) (hb0 : N ≤ 100000) (hd : decode M.2.1 pc = .ok (.anewarray idx, 3)) (hm : nc + 1 ≤ mc ∧ ns + N ≤ ms) (hw : mm_wf h) (hvs : mm_vs h.1.length lv st)
    (kk : mm_W d M mc ms Q (nc + 1) (ns + N) (pc + 3, lv, .ref h.1.length :: st, mm_ad h (.inl (t, N)))) : mm_W d M mc ms Q nc ns (pc, lv, .int n :: st, h) := by
  intro p l e s m args below meth c X ad0 n0 ad H locs ls C ha hn hR hS hl
  have C' := C
  obtain ⟨hx, hb, hml, hr, hlo, hown, hts, hnm, hT, hO⟩ := C'
  have hA : ∀ q : Nat, s.heap.size ≤ q → mm_A X q := fun q hq => Nat.le_trans hO.2.2.2.2.1 hq
  rcases ht with ⟨rfl, rfl⟩ | ⟨rfl, rfl⟩
  · refine va_newq (D := X.1) (cl := vwCl) hx hb hown (hts _ hcl) hT.2.2.1 hT.1 hR.1 hR.2.1 hS hA hn0 hN (by omega) hm.1 hm.2 hd (fun q cA H1 hK1 hP1 hD1 hS1 => ?_)
    have ec := mm_uniq (t := 2) hT.1 rfl hK1
    subst ec
    exact mm_addcell hw hvs kk C ha hn hR.2.2 hl (mm_cellq (by decide)) hP1 hD1 hS1
  · refine va_newq (D := X.1) (cl := vwCl) hx hb hown (hts _ hcl) hT.2.2.2.1 hT.1 hR.1 hR.2.1 hS hA hn0 hN (by omega) hm.1 hm.2 hd (fun q cA H1 hK1 hP1 hD1 hS1 => ?_)
    have ec := mm_uniq (t := 3) hT.1 rfl hK1
    subst ec
    exact mm_addcell hw hvs kk C ha hn hR.2.2 hl (mm_cellq (by decide)) hP1 hD1 hS1
/-- instanceof, of a receiver whose class is known -/
theorem mm_inst {q ci idx : Nat} {fs : List Nat} {r : vw_C} {Cn : String} {v : Int32} (hrc : vwCl[ci]? = some r) (hq : h.1[q]? = some (.inr (ci, fs))) (hcl : Cond.classLink M.1.cls idx Cn ∈ mm_G) (hv : (r.1 = Cn ∧ v = 1) ∨ (Cond.castable r.1 Cn ∈ mm_N ∧ v = 1) ∨ ((r.1, Cn) ∈ mm_nc ∧ v = 0)) (hd : decode M.2.1 pc = .ok (.instanceof idx, 3)) (kk : mm_W d M mc ms Q nc ns (pc + 3, lv, .int v :: st, h)) : mm_W d M mc ms Q nc ns (pc, lv, .ref q :: st, h) := by
  intro p l e s m args below meth c X ad0 n0 ad H locs ls C ha hn hR hS hl
  have k' := kk p l e s m args below meth c X ad0 n0 ad H locs ls C ha hn hR hS hl
  obtain ⟨hx, hb, hml, hr, hlo, hown, hts, hnm, hT, hO⟩ := C
  have hrv := va_recv hT.1 hR.1 hrc (mm_lay_at (X := X) (ad := ad) hq)
  rcases hv with ⟨h1, rfl⟩ | ⟨h1, rfl⟩ | ⟨h1, rfl⟩
  · subst h1
    exact va_instS hx hb hown (hts _ hcl) (hT.1.1 ci r hrc).2 hrv hd k'
  · exact va_instY hx hb hown (hts _ hcl) (hT.2.1 _ h1) hrv hd k'
  · exact va_instNo hx hb hown (hts _ hcl) (hT.2.2.2.2.2.1 _ h1) hrv hd k'
/-- System.arraycopy over int arrays -/
def mm_cp (g : Nat → Nat → Int32) (k0 k1 sp dp n : Nat) : Nat → Nat → Int32 := fun a b => bif a == k1 then va_cpy (g k0) (g k1) sp dp n b else g a b
theorem mm_lay_cp {X : mm_X} {ad : Nat → Nat} {k0 k1 n1 sp dp n : Nat} (hs : h.1[k1]? = some (.inl (0, n1))) : mm_lay X ad (h.1, mm_cp h.2.1 k0 k1 sp dp n, h.2.2) = (mm_lay X ad h).set k1 (ad k1, .inl (X.2.1 0, n1, .inl (va_cpy (h.2.1 k0) (h.2.1 k1) sp dp n))) := by
  refine mm_lay_set hs (mm_set_self hs) (fun j hj c => ?_) ?_
  · have e0 : mm_cp h.2.1 k0 k1 sp dp n j = h.2.1 j := by funext i; simp [mm_cp, beq_false_of_ne hj]
    cases c with
    | inl x => simp only [mm_cv, e0]
    | inr o =>
      simp only [mm_cv]
      congr 3
      funext i c
      match c with
      | 0 => simp only [mm_cF, e0]
      | 1 => rfl
      | 2 => rfl
      | c + 3 => rfl
  · have e0 : mm_cp h.2.1 k0 k1 sp dp n k1 = va_cpy (h.2.1 k0) (h.2.1 k1) sp dp n := by funext i; simp [mm_cp]
    simp only [mm_cv, e0, if_pos (show (0 : Nat) < 2 by decide)]
theorem mm_acopy {k0 k1 n0 n1 idx : Nat} {sp dp n : Int32} (hlk : Cond.methodLink M.1.cls idx arraycopyName ∈ mm_G) (hnat : Cond.native arraycopyName ∈ mm_G) (hst : Cond.static arraycopyName ∈ mm_G) (hini : Cond.initialized "java/lang/System" ∈ mm_G) (hs0 : h.1[k0]? = some (.inl (0, n0))) (hs1 : h.1[k1]? = some (.inl (0, n1))) (h1 : ¬ sp < 0) (h2 : ¬ dp < 0) (h3 : ¬ n < 0) (h4 : sp.toNatClampNeg + n.toNatClampNeg ≤ n0) (h5 : dp.toNatClampNeg + n.toNatClampNeg ≤ n1) (hdd : 1 ≤ d) (hcat : (st.map Value.category).sum ≤ 8) (hd : decode M.2.1 pc = .ok (.invokestatic idx, 3))
    (kk : mm_W d M mc ms Q nc ns (pc + 3, lv, st, (h.1, mm_cp h.2.1 k0 k1 sp.toNatClampNeg dp.toNatClampNeg n.toNatClampNeg, h.2.2))) : mm_W d M mc ms Q nc ns (pc, lv, .int n :: .int dp :: .ref k1 :: .int sp :: .ref k0 :: st, h) := by
  intro p l e s m args below meth c X ad0 n0' ad H locs ls C ha hn hR hS hl
  have C' := C
  obtain ⟨hx, hb, hml, hr, hlo, hown, hts, hnm, hT, hO⟩ := C'
  refine va_copyi (D := X.1) (cl := vwCl) hx hb (by rw [hml]; exact hl.2.1.symm) hown (hts _ hlk) (hts _ hnat) (hts _ hst) (hts _ hini) hT.1 hR.1 hR.2.1 hS k0 k1 0 0 (ty := .int) (mm_lay_at hs0) (mm_lay_at hs1) rfl rfl rfl h1 h2 h3 h4 h5 (fun _ _ => rfl) hdd ?_ hd (fun H1 locs1 hP1 hD1 hS1 => ?_)
  · have h8 := mm_cats (X := X) (ad := ad) hcat
    have h9 : nativeFrameWords "java/lang/System" "arraycopy" 5 + 11 ≤ 50 := by decide +kernel
    show _ ≤ 41 * d + 32
    omega
  · have e3 := mm_lay_cp (X := X) (ad := ad) (k0 := k0) (sp := sp.toNatClampNeg) (dp := dp.toNatClampNeg) (n := n.toNatClampNeg) hs1
    exact kk p l e s m args below meth c X ad0 n0' ad H1 locs1 ls C ha hn ⟨by rw [e3]; exact hP1, by rw [e3]; exact hD1, hR.2.2⟩ hS1 hl
end
end
section
/-! ===== links of fields and constants, by their places among the words (written by program) ===== -/
/-- pool place, class number, field number, the word's place, the class whose pool it is -/
def mm_fl : List (Nat × Nat × Nat × Nat × String) := [(10, 11, 0, 334, "SchoolOnRaft"), (19, 11, 1, 335, "SchoolOnRaft"), (26, 11, 2, 336, "SchoolOnRaft"), (33, 11, 3, 337, "SchoolOnRaft"), (37, 11, 4, 338, "SchoolOnRaft"), (41, 11, 5, 339, "SchoolOnRaft"), (45, 11, 6, 340, "SchoolOnRaft"), (50, 11, 7, 341, "SchoolOnRaft"), (53, 11, 8, 342, "SchoolOnRaft"), (56, 11, 9, 343, "SchoolOnRaft"), (65, 9, 0, 243, "SchoolOnRaft"), (75, 0, 0, 121, "SchoolOnRaft"), (108, 0, 3, 132, "SchoolOnRaft"), (111, 0, 4, 135, "SchoolOnRaft"), (114, 0, 5, 137, "SchoolOnRaft"), (130, 0, 6, 141, "SchoolOnRaft"), (133, 0, 7, 145, "SchoolOnRaft"), (136, 0, 8, 148, "SchoolOnRaft"), (148, 6, 1, 307, "SchoolOnRaft"), (151, 6, 0, 305, "SchoolOnRaft"), (154, 9, 2, 248, "SchoolOnRaft"), (161, 6, 2, 308, "SchoolOnRaft"), (164, 9, 1, 246, "SchoolOnRaft"), (168, 0, 2, 128, "SchoolOnRaft"), (175, 0, 9, 152, "SchoolOnRaft"), (200, 7, 1, 277, "SchoolOnRaft"), (203, 7, 0, 275, "SchoolOnRaft"), (228, 0, 1, 126, "SchoolOnRaft"), (293, 0, 10, 154, "SchoolOnRaft"), (9, 0, 3, 130, "SchoolOnRaft$Board"), (15, 0, 4, 133, "SchoolOnRaft$Board"), (18, 0, 5, 136, "SchoolOnRaft$Board"), (21, 0, 6, 139, "SchoolOnRaft$Board"), (24, 0, 7, 143, "SchoolOnRaft$Board"), (27, 0, 8, 147, "SchoolOnRaft$Board"), (30, 0, 9, 150, "SchoolOnRaft$Board"), (33, 0, 10, 153, "SchoolOnRaft$Board"), (42, 0, 0, 120, "SchoolOnRaft$Board"), (46, 0, 1, 124, "SchoolOnRaft$Board"), (49, 0, 2, 127, "SchoolOnRaft$Board"), (9, 6, 0, 304, "SchoolOnRaft$Reader"), (15, 6, 5, 312, "SchoolOnRaft$Reader"), (18, 6, 3, 310, "SchoolOnRaft$Reader"), (31, 6, 1, 306, "SchoolOnRaft$Reader"), (34, 6, 4, 311, "SchoolOnRaft$Reader"), (40, 6, 6, 313, "SchoolOnRaft$Reader"), (75, 6, 2, 309, "SchoolOnRaft$Reader"), (9, 7, 0, 274, "SchoolOnRaft$Search"), (15, 7, 3, 279, "SchoolOnRaft$Search"), (18, 7, 4, 280, "SchoolOnRaft$Search"), (21, 7, 5, 281, "SchoolOnRaft$Search"), (24, 7, 6, 282, "SchoolOnRaft$Search"), (27, 7, 2, 278, "SchoolOnRaft$Search"), (37, 7, 1, 276, "SchoolOnRaft$Search"), (49, 9, 0, 244, "SchoolOnRaft$Search"), (55, 0, 0, 122, "SchoolOnRaft$Search"), (64, 0, 1, 125, "SchoolOnRaft$Search"), (67, 0, 6, 140, "SchoolOnRaft$Search"), (70, 0, 7, 144, "SchoolOnRaft$Search"), (14, 9, 0, 242, "SchoolOnRaft$Spring"), (20, 9, 1, 245, "SchoolOnRaft$Spring"), (26, 9, 3, 249, "SchoolOnRaft$Spring"), (30, 9, 4, 250, "SchoolOnRaft$Spring"), (34, 9, 5, 251, "SchoolOnRaft$Spring"), (40, 9, 6, 252, "SchoolOnRaft$Spring"), (60, 9, 2, 247, "SchoolOnRaft$Spring"), (64, 0, 3, 131, "SchoolOnRaft$Spring"), (66, 0, 0, 123, "SchoolOnRaft$Spring"), (77, 0, 4, 134, "SchoolOnRaft$Spring"), (92, 10, 0, 189, "SchoolOnRaft$Spring"), (99, 10, 1, 191, "SchoolOnRaft$Spring"), (114, 10, 2, 193, "SchoolOnRaft$Spring"), (120, 0, 5, 138, "SchoolOnRaft$Spring"), (141, 0, 9, 151, "SchoolOnRaft$Spring"), (148, 0, 6, 142, "SchoolOnRaft$Spring"), (151, 0, 7, 146, "SchoolOnRaft$Spring"), (161, 0, 2, 129, "SchoolOnRaft$Spring"), (164, 0, 8, 149, "SchoolOnRaft$Spring"), (7, 10, 0, 188, "SchoolOnRaft$Text"), (13, 10, 1, 190, "SchoolOnRaft$Text"), (16, 10, 2, 192, "SchoolOnRaft$Text"), (13, 12, 1, 940, "SchoolOnRaftModel"), (17, 12, 2, 941, "SchoolOnRaftModel"), (20, 12, 5, 944, "SchoolOnRaftModel"), (23, 12, 7, 946, "SchoolOnRaftModel"), (26, 12, 8, 947, "SchoolOnRaftModel"), (29, 12, 9, 948, "SchoolOnRaftModel"), (32, 12, 11, 950, "SchoolOnRaftModel"), (35, 12, 12, 951, "SchoolOnRaftModel"), (38, 12, 13, 952, "SchoolOnRaftModel"), (41, 12, 15, 954, "SchoolOnRaftModel"), (44, 12, 31, 970, "SchoolOnRaftModel"), (47, 12, 32, 971, "SchoolOnRaftModel"), (50, 12, 33, 972, "SchoolOnRaftModel"), (53, 12, 34, 973, "SchoolOnRaftModel"), (56, 12, 35, 974, "SchoolOnRaftModel"), (59, 12, 36, 975, "SchoolOnRaftModel"), (62, 12, 37, 976, "SchoolOnRaftModel"), (65, 12, 38, 977, "SchoolOnRaftModel"), (68, 12, 40, 979, "SchoolOnRaftModel"), (71, 12, 41, 980, "SchoolOnRaftModel"), (74, 12, 42, 981, "SchoolOnRaftModel"), (77, 12, 45, 984, "SchoolOnRaftModel"), (81, 12, 46, 985, "SchoolOnRaftModel"), (84, 12, 47, 986, "SchoolOnRaftModel"), (87, 12, 48, 987, "SchoolOnRaftModel"), (94, 12, 3, 942, "SchoolOnRaftModel"), (97, 12, 10, 949, "SchoolOnRaftModel"), (104, 12, 14, 953, "SchoolOnRaftModel"), (135, 12, 6, 945, "SchoolOnRaftModel"), (138, 12, 23, 962, "SchoolOnRaftModel"), (141, 12, 22, 961, "SchoolOnRaftModel"), (144, 12, 24, 963, "SchoolOnRaftModel"), (150, 12, 26, 965, "SchoolOnRaftModel"), (153, 12, 25, 964, "SchoolOnRaftModel"), (164, 12, 27, 966, "SchoolOnRaftModel"), (170, 12, 29, 968, "SchoolOnRaftModel"), (174, 12, 30, 969, "SchoolOnRaftModel"), (181, 12, 28, 967, "SchoolOnRaftModel"), (194, 12, 16, 955, "SchoolOnRaftModel"), (197, 12, 17, 956, "SchoolOnRaftModel"), (200, 12, 18, 957, "SchoolOnRaftModel"), (203, 12, 19, 958, "SchoolOnRaftModel"), (206, 12, 20, 959, "SchoolOnRaftModel"), (209, 12, 21, 960, "SchoolOnRaftModel"), (253, 12, 4, 943, "SchoolOnRaftModel"), (310, 12, 39, 978, "SchoolOnRaftModel"), (344, 12, 43, 982, "SchoolOnRaftModel"), (347, 12, 44, 983, "SchoolOnRaftModel")]
def mm_cl : List (Nat × Value × Nat × String) := [(252, .long (-4611686018427387904), 869, "SchoolOnRaft"), (302, .int 1103515245, 864, "SchoolOnRaft"), (107, .long 5, 1092, "SchoolOnRaftModel"), (109, .long 9, 1096, "SchoolOnRaftModel"), (111, .long 99, 1101, "SchoolOnRaftModel"), (113, .long 14, 1102, "SchoolOnRaftModel"), (115, .long 4, 1107, "SchoolOnRaftModel"), (124, .long 7, 1120, "SchoolOnRaftModel"), (133, .long 255, 1141, "SchoolOnRaftModel"), (156, .long 97, 1158, "SchoolOnRaftModel"), (158, .long 122, 1159, "SchoolOnRaftModel"), (160, .long 48, 1160, "SchoolOnRaftModel"), (162, .long 57, 1161, "SchoolOnRaftModel"), (168, .long 10, 1162, "SchoolOnRaftModel"), (232, .long 43, 1215, "SchoolOnRaftModel"), (240, .long 60, 1216, "SchoolOnRaftModel"), (313, .long 6, 1295, "SchoolOnRaftModel"), (318, .long 2, 1312, "SchoolOnRaftModel"), (335, .int 1103515245, 1365, "SchoolOnRaftModel"), (340, .long 20, 1370, "SchoolOnRaftModel"), (342, .long (-4611686018427387904), 1371, "SchoolOnRaftModel"), (350, .long 3, 1336, "SchoolOnRaftModel"), (352, .long (-1), 1388, "SchoolOnRaftModel"), (265, .int 1431655765, 693, "java/lang/Integer"), (266, .int 858993459, 694, "java/lang/Integer"), (267, .int 252645135, 695, "java/lang/Integer")]
end
section
/-! ===== an instruction by evaluation; a stretch of them ===== -/
def mm_flk (q : Nat × Nat × Nat × Nat × String) : Bool := match vwCl[q.2.1]? with
  | some c => decide (q.2.2.1 < c.2.2) && decide (lw_tbl[q.2.2.2.1]? = some (.fieldLink q.2.2.2.2 q.1 c.1 (c.2.1 q.2.2.1).2.1 (c.2.1 q.2.2.1).2.2.1)) && decide ((c.2.1 q.2.2.1).1 = c.1)
  | none => false
theorem mm_fl_ok : mm_fl.all mm_flk = true := by decide +kernel
def mm_fm (own : String) (idx ci y : Nat) : Bool := mm_fl.any (fun q => q.1 == idx && (q.2.1 == ci && (q.2.2.1 == y && decide (q.2.2.2.2 = own))))
theorem mm_fm_lk {own : String} {idx ci y : Nat} (h : mm_fm own idx ci y = true) : mm_lk own idx ci y := by
  obtain ⟨q, hq, h1⟩ := List.any_eq_true.mp h
  simp only [Bool.and_eq_true, beq_iff_eq, decide_eq_true_eq] at h1
  obtain ⟨e1, e2, e3, e4⟩ := h1
  have h2 := List.all_eq_true.mp mm_fl_ok q hq
  unfold mm_flk at h2
  rw [e1, e2, e3, e4] at h2
  split at h2
  · rename_i c hc
    simp only [Bool.and_eq_true, decide_eq_true_eq] at h2
    exact ⟨c, hc, h2.1.1, mm_wat _ h2.1.2 rfl, h2.2⟩
  · cases h2
def mm_clk (q : Nat × Value × Nat × String) : Bool := match q.2.1 with
  | .int a => decide (lw_tbl[q.2.2.1]? = some (.constant q.2.2.2 q.1 a))
  | .long a => decide (lw_tbl[q.2.2.1]? = some (.constantLong q.2.2.2 q.1 a))
  | _ => false
theorem mm_cl_ok : mm_cl.all mm_clk = true := by decide +kernel
def mm_cm (own : String) (idx : Nat) (v : Value) : Bool := mm_cl.any (fun q => q.1 == idx && (decide (q.2.1 = v) && decide (q.2.2.2 = own)))
theorem mm_cm_i {own : String} {idx : Nat} {a : Int32} (h : mm_cm own idx (.int a) = true) : Cond.constant own idx a ∈ mm_G := by
  obtain ⟨q, hq, h1⟩ := List.any_eq_true.mp h
  simp only [Bool.and_eq_true, beq_iff_eq, decide_eq_true_eq] at h1
  obtain ⟨e1, e2, e3⟩ := h1
  have h2 := List.all_eq_true.mp mm_cl_ok q hq
  unfold mm_clk at h2
  rw [e1, e2, e3] at h2
  exact mm_wat _ (of_decide_eq_true h2) rfl
theorem mm_cm_l {own : String} {idx : Nat} {a : Int64} (h : mm_cm own idx (.long a) = true) : Cond.constantLong own idx a ∈ mm_G := by
  obtain ⟨q, hq, h1⟩ := List.any_eq_true.mp h
  simp only [Bool.and_eq_true, beq_iff_eq, decide_eq_true_eq] at h1
  obtain ⟨e1, e2, e3⟩ := h1
  have h2 := List.all_eq_true.mp mm_cl_ok q hq
  unfold mm_clk at h2
  rw [e1, e2, e3] at h2
  exact mm_wat _ (of_decide_eq_true h2) rfl
def mm_ff (M : mm_M) (ci y : Nat) : Bool := match vwCl[ci]? with
  | some c => !(c.2.1 y).2.2.2 || (decide (M.1.name = "<init>") && decide (c.1 = M.1.cls))
  | none => false
/-- a row of a method's code is as the bytes say -/
def mm_k2 (M : mm_M) (pc : Nat) (i : Instr) (len x y : Nat) (v : Value) : Bool := match i with
  | .iconst n => len == 1 && decide (v = .int (Int32.ofInt n))
  | .bipush n => len == 2 && decide (v = .int (Int8.ofInt n).toInt32)
  | .sipush n => len == 3 && decide (v = .int (Int16.ofInt n).toInt32)
  | .lconst n => len == 1 && decide (v = .long (Int64.ofNat (n : Nat)))
  | .aconst_null => len == 1 && decide (v = .null)
  | .ldc n => len == 2 && (match v with
    | .int a => mm_cm M.1.cls n (.int a)
    | .retAddr j => decide (M.1.cls = "SchoolOnRaft$Reader") && decide ((mm_str[j]?).map Prod.fst = some n)
    | _ => false)
  | .ldc_w n => len == 3 && (match v with
    | .int a => mm_cm M.1.cls n (.int a)
    | _ => false)
  | .ldc2_w n => len == 3 && (match v with
    | .long a => mm_cm M.1.cls n (.long a)
    | _ => false)
  | .iload n => len == 2 && n == x
  | .lload n => len == 2 && n == x
  | .aload n => len == 2 && n == x
  | .istore n => len == 2 && n == x
  | .lstore n => len == 2 && n == x
  | .astore n => len == 2 && n == x
  | .iload_n n => len == 1 && (n : Nat) == x
  | .lload_n n => len == 1 && (n : Nat) == x
  | .aload_n n => len == 1 && (n : Nat) == x
  | .istore_n n => len == 1 && (n : Nat) == x
  | .lstore_n n => len == 1 && (n : Nat) == x
  | .astore_n n => len == 1 && (n : Nat) == x
  | .iinc n c => len == 3 && (n == x && decide (v = .int (Int32.ofInt c)))
  | .goto o => len == 3 && decide ((pc : Int) + o = (y : Int))
  | .ifCond _ o => len == 3 && decide ((pc : Int) + o = (y : Int))
  | .if_icmp _ o => len == 3 && decide ((pc : Int) + o = (y : Int))
  | .ifnull o => len == 3 && decide ((pc : Int) + o = (y : Int))
  | .ifnonnull o => len == 3 && decide ((pc : Int) + o = (y : Int))
  | .getfield n => len == 3 && (x == 99 || mm_fm M.1.cls n x y)
  | .putfield n => len == 3 && (mm_fm M.1.cls n x y && mm_ff M x y)
  | _ => true
def mm_k (M : mm_M) (e : mm_E) : Bool := decide (decode M.2.1 e.1 = .ok (e.2.1, e.2.2.1)) && mm_k2 M e.1 e.2.1 e.2.2.1 e.2.2.2.1 e.2.2.2.2.1 e.2.2.2.2.2
/-- the value of an array's place, of a field: what the picture says -/
def mm_gf (h : mm_Hp) (k x y : Nat) : Option Value := match h.1[k]? with
  | some (.inr (ci, fs)) => bif ci == x then (match fs[y]? with
    | some c => some (mm_vF h k y c)
    | none => none) else none
  | _ => none
def mm_wr (h : mm_Hp) (k x y : Nat) (v : Value) : Option (List Prop × mm_Hp) := match h.1[k]? with
  | some (.inr (ci, fs)) => bif ci == x then (match fs[y]? with
    | some c => mm_pf h k y x fs (mm_ty x y) v c
    | none => none) else none
  | _ => none
def mm_x1 (i : Instr) (pc len x y : Nat) (v : Value) (lv : mm_L) (st : List Value) (h : mm_Hp) : Option (List Prop × mm_S) :=
  match i with
  | .iconst _ => some ([], pc + len, lv, v :: st, h)
  | .bipush _ => some ([], pc + len, lv, v :: st, h)
  | .sipush _ => some ([], pc + len, lv, v :: st, h)
  | .lconst _ => some ([], pc + len, lv, v :: st, h)
  | .aconst_null => some ([], pc + len, lv, v :: st, h)
  | .ldc _ => some ([], pc + len, lv, v :: st, h)
  | .ldc_w _ => some ([], pc + len, lv, v :: st, h)
  | .ldc2_w _ => some ([], pc + len, lv, v :: st, h)
  | .iload _ => match lv[x]? with
    | some (some (.int a)) => some ([], pc + len, lv, .int a :: st, h)
    | _ => none
  | .iload_n _ => match lv[x]? with
    | some (some (.int a)) => some ([], pc + len, lv, .int a :: st, h)
    | _ => none
  | .lload _ => match lv[x]? with
    | some (some (.long a)) => some ([], pc + len, lv, .long a :: st, h)
    | _ => none
  | .lload_n _ => match lv[x]? with
    | some (some (.long a)) => some ([], pc + len, lv, .long a :: st, h)
    | _ => none
  | .aload _ => match lv[x]? with
    | some (some w) => bif mm_isr w then some ([], pc + len, lv, w :: st, h) else none
    | _ => none
  | .aload_n _ => match lv[x]? with
    | some (some w) => bif mm_isr w then some ([], pc + len, lv, w :: st, h) else none
    | _ => none
  | .istore _ => match st with
    | .int a :: r => bif mm_pr lv x && Nat.blt x lv.length then some ([], pc + len, lv.set x (some (.int a)), r, h) else none
    | _ => none
  | .istore_n _ => match st with
    | .int a :: r => bif mm_pr lv x && Nat.blt x lv.length then some ([], pc + len, lv.set x (some (.int a)), r, h) else none
    | _ => none
  | .lstore _ => match st with
    | .long a :: r => bif mm_pr lv x && Nat.blt (x + 1) lv.length then some ([], pc + len, (lv.set x (some (.long a))).set (x + 1) none, r, h) else none
    | _ => none
  | .lstore_n _ => match st with
    | .long a :: r => bif mm_pr lv x && Nat.blt (x + 1) lv.length then some ([], pc + len, (lv.set x (some (.long a))).set (x + 1) none, r, h) else none
    | _ => none
  | .astore _ => match st with
    | w :: r => bif mm_isr w && (mm_pr lv x && Nat.blt x lv.length) then some ([], pc + len, lv.set x (some w), r, h) else none
    | _ => none
  | .astore_n _ => match st with
    | w :: r => bif mm_isr w && (mm_pr lv x && Nat.blt x lv.length) then some ([], pc + len, lv.set x (some w), r, h) else none
    | _ => none
  | .iinc _ _ => match lv[x]?, v with
    | some (some (.int a)), .int c => bif mm_pr lv x then some ([], pc + 3, lv.set x (some (.int (a + c))), st, h) else none
    | _, _ => none
  | .goto _ => some ([], y, lv, st, h)
  | .getfield _ => match st with
    | .ref k :: r => match mm_gf h k x y with
      | some w => bif x == 99 then none else some ([], pc + 3, lv, w :: r, h)
      | none => none
    | _ => none
  | .putfield _ => match st with
    | w :: .ref k :: r => match mm_wr h k x y w with
      | some (cs, h') => some (cs, pc + 3, lv, r, h')
      | none => none
    | _ => none
  | .iaload => match st with
    | .int a :: .ref k :: r => match h.1[k]? with
      | some (.inl (0, n)) => bif len == 1 then some ([vp_in a n], pc + 1, lv, .int (h.2.1 k a.toNatClampNeg) :: r, h) else none
      | _ => none
    | .int a :: .float _ :: r => bif len == 1 then some ([vp_in a h.2.2.2.1], pc + 1, lv, .int (h.2.2.2.2 a.toNatClampNeg) :: r, h) else none
    | _ => none
  | .baload => match st with
    | .int a :: .ref k :: r => match h.1[k]? with
      | some (.inl (1, n)) => bif len == 1 then some ([vp_in a n], pc + 1, lv, .int (h.2.1 k a.toNatClampNeg) :: r, h) else none
      | _ => none
    | _ => none
  | .iastore => match st with
    | .int b :: .int a :: .ref k :: r => match h.1[k]? with
      | some (.inl (0, n)) => bif len == 1 then some ([vp_in a n], pc + 1, lv, r, h.1, mm_up h.2.1 k a.toNatClampNeg b, h.2.2) else none
      | _ => none
    | _ => none
  | .bastore => match st with
    | .int b :: .int a :: .ref k :: r => match h.1[k]? with
      | some (.inl (1, n)) => bif len == 1 then some ([vp_in a n, vp_nar .boolean b = b], pc + 1, lv, r, h.1, mm_up h.2.1 k a.toNatClampNeg b, h.2.2) else none
      | _ => none
    | _ => none
  | .arraylength => match st with
    | .ref k :: r => match h.1[k]? with
      | some (.inl (t, n)) => bif len == 1 && Nat.blt t 5 then some ([], pc + 1, lv, .int (nI n) :: r, h) else none
      | _ => none
    | .float _ :: r => bif len == 1 then some ([], pc + 1, lv, .int (nI h.2.2.2.1) :: r, h) else none
    | _ => none
  | i => match mm_op i st with
    | some (cs, st') => bif len == 1 then some (cs, pc + 1, lv, st', h) else none
    | none => none
/-- a stretch of rows -/
def mm_xs : List mm_E → mm_S → Option (List Prop × mm_S)
  | [], s => some ([], s)
  | e :: es, s => bif s.1 == e.1 then (match mm_x1 e.2.1 e.1 e.2.2.1 e.2.2.2.1 e.2.2.2.2.1 e.2.2.2.2.2 s.2.1 s.2.2.1 s.2.2.2 with
    | some (cs, s1) => match mm_xs es s1 with
      | some (cs', s2) => some (cs ++ cs', s2)
      | none => none
    | none => none) else none
end
section
/-! ===== the evaluation is sound ===== -/
section
variable {d : Nat} {M : mm_M} {mc ms : Nat} {Q : Option Value → mm_Hp → Prop} {nc ns pc : Nat} {lv : mm_L} {st : List Value} {h : mm_Hp}
theorem mm_ldc_s {n j : Nat} (ho : M.1.cls = "SchoolOnRaft$Reader") (hj : (mm_str[j]?).map Prod.fst = some n) (hd : decode M.2.1 pc = .ok (.ldc n, 2)) (k : mm_W d M mc ms Q nc ns (pc + 2, lv, .retAddr j :: st, h)) : mm_W d M mc ms Q nc ns (pc, lv, st, h) := by
  intro p l e s m args below meth c X ad0 n0 ad H locs ls C ha hn hR hS hl
  have k' := k p l e s m args below meth c X ad0 n0 ad H locs ls C ha hn hR hS hl
  obtain ⟨hx, hb, hml, hr, hlo, hown, hts, hnm, hT, hO⟩ := C
  cases hq : mm_str[j]? with
  | none => rw [hq] at hj; cases hj
  | some q =>
    rw [hq] at hj
    cases hj
    rw [ho] at hown
    have hj12 : j < 12 := (List.getElem?_eq_some_iff.mp hq).1
    have e0 : mm_rv X ad (.retAddr j) = .ref (X.2.2.2.1.1 j) := by
      have : Nat.ble 100 j = false := by
        cases h9 : Nat.ble 100 j with
        | false => rfl
        | true => have := Nat.le_of_ble_eq_true h9; omega
      simp [mm_rv, this]
    simp only [List.map_cons, e0] at k'
    exact va_ldcS hx hb hown (hT.2.2.2.2.2.2 j q hq) hd k'
theorem mm_cst {i : Instr} {len x y : Nat} {v : Value} (hi : i = .aconst_null ∨ (∃ n, i = .iconst n) ∨ (∃ n, i = .bipush n) ∨ (∃ n, i = .sipush n) ∨ (∃ n, i = .lconst n) ∨ (∃ n, i = .ldc n) ∨ (∃ n, i = .ldc_w n) ∨ ∃ n, i = .ldc2_w n) (hd : decode M.2.1 pc = .ok (i, len)) (hk : mm_k2 M pc i len x y v = true) (k : mm_W d M mc ms Q nc ns (pc + len, lv, v :: st, h)) : mm_W d M mc ms Q nc ns (pc, lv, st, h) := by
  rcases hi with rfl | ⟨n, rfl⟩ | ⟨n, rfl⟩ | ⟨n, rfl⟩ | ⟨n, rfl⟩ | ⟨n, rfl⟩ | ⟨n, rfl⟩ | ⟨n, rfl⟩
  · simp only [mm_k2, Bool.and_eq_true, beq_iff_eq, decide_eq_true_eq] at hk
    obtain ⟨rfl, rfl⟩ := hk
    intro p l e s m args below meth c X ad0 n0 ad H locs ls C ha hn hR hS hl
    exact lv_null C.1 C.2.1 hd (k p l e s m args below meth c X ad0 n0 ad H locs ls C ha hn hR hS hl)
  · simp only [mm_k2, Bool.and_eq_true, beq_iff_eq, decide_eq_true_eq] at hk
    obtain ⟨rfl, rfl⟩ := hk
    intro p l e s m args below meth c X ad0 n0 ad H locs ls C ha hn hR hS hl
    exact lv_iconst C.1 C.2.1 hd rfl (k p l e s m args below meth c X ad0 n0 ad H locs ls C ha hn hR hS hl)
  · simp only [mm_k2, Bool.and_eq_true, beq_iff_eq, decide_eq_true_eq] at hk
    obtain ⟨rfl, rfl⟩ := hk
    intro p l e s m args below meth c X ad0 n0 ad H locs ls C ha hn hR hS hl
    exact lv_bipush C.1 C.2.1 hd rfl (k p l e s m args below meth c X ad0 n0 ad H locs ls C ha hn hR hS hl)
  · simp only [mm_k2, Bool.and_eq_true, beq_iff_eq, decide_eq_true_eq] at hk
    obtain ⟨rfl, rfl⟩ := hk
    intro p l e s m args below meth c X ad0 n0 ad H locs ls C ha hn hR hS hl
    exact lv_sipush C.1 C.2.1 hd rfl (k p l e s m args below meth c X ad0 n0 ad H locs ls C ha hn hR hS hl)
  · simp only [mm_k2, Bool.and_eq_true, beq_iff_eq, decide_eq_true_eq] at hk
    obtain ⟨rfl, rfl⟩ := hk
    intro p l e s m args below meth c X ad0 n0 ad H locs ls C ha hn hR hS hl
    exact lv_lconst C.1 C.2.1 hd rfl (k p l e s m args below meth c X ad0 n0 ad H locs ls C ha hn hR hS hl)
  · simp only [mm_k2, Bool.and_eq_true, beq_iff_eq] at hk
    obtain ⟨rfl, h1⟩ := hk
    cases v with
    | int a =>
      intro p l e s m args below meth c X ad0 n0 ad H locs ls C ha hn hR hS hl
      exact lv_ldc C.1 C.2.1 C.2.2.2.2.2.1 (C.2.2.2.2.2.2.1 _ (mm_cm_i h1)) hd (k p l e s m args below meth c X ad0 n0 ad H locs ls C ha hn hR hS hl)
    | retAddr j =>
      simp only [Bool.and_eq_true, decide_eq_true_eq] at h1
      exact mm_ldc_s h1.1 h1.2 hd k
    | _ => cases h1
  · simp only [mm_k2, Bool.and_eq_true, beq_iff_eq] at hk
    obtain ⟨rfl, h1⟩ := hk
    cases v with
    | int a =>
      intro p l e s m args below meth c X ad0 n0 ad H locs ls C ha hn hR hS hl
      exact lv_ldcw C.1 C.2.1 C.2.2.2.2.2.1 (C.2.2.2.2.2.2.1 _ (mm_cm_i h1)) hd (k p l e s m args below meth c X ad0 n0 ad H locs ls C ha hn hR hS hl)
    | _ => cases h1
  · simp only [mm_k2, Bool.and_eq_true, beq_iff_eq] at hk
    obtain ⟨rfl, h1⟩ := hk
    cases v with
    | long a =>
      intro p l e s m args below meth c X ad0 n0 ad H locs ls C ha hn hR hS hl
      exact lv_ldc2 C.1 C.2.1 C.2.2.2.2.2.1 (C.2.2.2.2.2.2.1 _ (mm_cm_l h1)) hd (k p l e s m args below meth c X ad0 n0 ad H locs ls C ha hn hR hS hl)
    | _ => cases h1
theorem mm_x1_ok {i : Instr} {len x y : Nat} {v : Value} {cs : List Prop} {s' : mm_S} (hd : decode M.2.1 pc = .ok (i, len)) (hk : mm_k2 M pc i len x y v = true) (hx : mm_x1 i pc len x y v lv st h = some (cs, s')) (hc : mm_all cs) (k : mm_W d M mc ms Q nc ns s') : mm_W d M mc ms Q nc ns (pc, lv, st, h) := by
  unfold mm_x1 at hx
  split at hx
  · cases hx; exact mm_cst (Or.inr (Or.inl ⟨_, rfl⟩)) hd hk k
  · cases hx; exact mm_cst (Or.inr (Or.inr (Or.inl ⟨_, rfl⟩))) hd hk k
  · cases hx; exact mm_cst (Or.inr (Or.inr (Or.inr (Or.inl ⟨_, rfl⟩)))) hd hk k
  · cases hx; exact mm_cst (Or.inr (Or.inr (Or.inr (Or.inr (Or.inl ⟨_, rfl⟩))))) hd hk k
  · cases hx; exact mm_cst (Or.inl rfl) hd hk k
  · cases hx; exact mm_cst (Or.inr (Or.inr (Or.inr (Or.inr (Or.inr (Or.inl ⟨_, rfl⟩)))))) hd hk k
  · cases hx; exact mm_cst (Or.inr (Or.inr (Or.inr (Or.inr (Or.inr (Or.inr (Or.inl ⟨_, rfl⟩))))))) hd hk k
  · cases hx; exact mm_cst (Or.inr (Or.inr (Or.inr (Or.inr (Or.inr (Or.inr (Or.inr ⟨_, rfl⟩))))))) hd hk k
  · simp only [mm_k2, Bool.and_eq_true, beq_iff_eq] at hk
    obtain ⟨rfl, rfl⟩ := hk
    split at hx
    · rename_i ha; cases hx; exact mm_ldi ha (Or.inl ⟨hd, rfl⟩) k
    · cases hx
  · simp only [mm_k2, Bool.and_eq_true, beq_iff_eq] at hk
    obtain ⟨rfl, rfl⟩ := hk
    split at hx
    · rename_i ha; cases hx; exact mm_ldi ha (Or.inr ⟨_, rfl, hd, rfl⟩) k
    · cases hx
  · simp only [mm_k2, Bool.and_eq_true, beq_iff_eq] at hk
    obtain ⟨rfl, rfl⟩ := hk
    split at hx
    · rename_i ha; cases hx; exact mm_ldl ha (Or.inl ⟨hd, rfl⟩) k
    · cases hx
  · simp only [mm_k2, Bool.and_eq_true, beq_iff_eq] at hk
    obtain ⟨rfl, rfl⟩ := hk
    split at hx
    · rename_i ha; cases hx; exact mm_ldl ha (Or.inr ⟨_, rfl, hd, rfl⟩) k
    · cases hx
  · simp only [mm_k2, Bool.and_eq_true, beq_iff_eq] at hk
    obtain ⟨rfl, rfl⟩ := hk
    split at hx
    · rename_i w ha
      cases hr : mm_isr w with
      | false => rw [hr] at hx; cases hx
      | true => rw [hr] at hx; cases hx; exact mm_lda ha hr (Or.inl ⟨hd, rfl⟩) k
    · cases hx
  · simp only [mm_k2, Bool.and_eq_true, beq_iff_eq] at hk
    obtain ⟨rfl, rfl⟩ := hk
    split at hx
    · rename_i w ha
      cases hr : mm_isr w with
      | false => rw [hr] at hx; cases hx
      | true => rw [hr] at hx; cases hx; exact mm_lda ha hr (Or.inr ⟨_, rfl, hd, rfl⟩) k
    · cases hx
  · simp only [mm_k2, Bool.and_eq_true, beq_iff_eq] at hk
    obtain ⟨rfl, rfl⟩ := hk
    split at hx
    · simp only [Bool.cond_eq_ite] at hx
      split at hx
      · rename_i hr
        cases hx
        rw [Bool.and_eq_true] at hr
        exact mm_sti hr.1 (Nat.blt_eq.mp hr.2) (Or.inl ⟨hd, rfl⟩) k
      · cases hx
    · cases hx
  · simp only [mm_k2, Bool.and_eq_true, beq_iff_eq] at hk
    obtain ⟨rfl, rfl⟩ := hk
    split at hx
    · simp only [Bool.cond_eq_ite] at hx
      split at hx
      · rename_i hr
        cases hx
        rw [Bool.and_eq_true] at hr
        exact mm_sti hr.1 (Nat.blt_eq.mp hr.2) (Or.inr ⟨_, rfl, hd, rfl⟩) k
      · cases hx
    · cases hx
  · simp only [mm_k2, Bool.and_eq_true, beq_iff_eq] at hk
    obtain ⟨rfl, rfl⟩ := hk
    split at hx
    · simp only [Bool.cond_eq_ite] at hx
      split at hx
      · rename_i hr
        cases hx
        rw [Bool.and_eq_true] at hr
        exact mm_stl hr.1 (Nat.blt_eq.mp hr.2) (Or.inl ⟨hd, rfl⟩) k
      · cases hx
    · cases hx
  · simp only [mm_k2, Bool.and_eq_true, beq_iff_eq] at hk
    obtain ⟨rfl, rfl⟩ := hk
    split at hx
    · simp only [Bool.cond_eq_ite] at hx
      split at hx
      · rename_i hr
        cases hx
        rw [Bool.and_eq_true] at hr
        exact mm_stl hr.1 (Nat.blt_eq.mp hr.2) (Or.inr ⟨_, rfl, hd, rfl⟩) k
      · cases hx
    · cases hx
  · simp only [mm_k2, Bool.and_eq_true, beq_iff_eq] at hk
    obtain ⟨rfl, rfl⟩ := hk
    split at hx
    · simp only [Bool.cond_eq_ite] at hx
      split at hx
      · rename_i hr
        cases hx
        rw [Bool.and_eq_true, Bool.and_eq_true] at hr
        exact mm_sta hr.1 hr.2.1 (Nat.blt_eq.mp hr.2.2) (Or.inl ⟨hd, rfl⟩) k
      · cases hx
    · cases hx
  · simp only [mm_k2, Bool.and_eq_true, beq_iff_eq] at hk
    obtain ⟨rfl, rfl⟩ := hk
    split at hx
    · simp only [Bool.cond_eq_ite] at hx
      split at hx
      · rename_i hr
        cases hx
        rw [Bool.and_eq_true, Bool.and_eq_true] at hr
        exact mm_sta hr.1 hr.2.1 (Nat.blt_eq.mp hr.2.2) (Or.inr ⟨_, rfl, hd, rfl⟩) k
      · cases hx
    · cases hx
  · simp only [mm_k2, Bool.and_eq_true, beq_iff_eq, decide_eq_true_eq] at hk
    obtain ⟨rfl, rfl, rfl⟩ := hk
    split at hx
    · rename_i ha hb
      cases hb
      simp only [Bool.cond_eq_ite] at hx
      split at hx
      · rename_i hr
        cases hx
        exact mm_inc ha rfl hr hd k
      · cases hx
    · cases hx
  · simp only [mm_k2, Bool.and_eq_true, beq_iff_eq, decide_eq_true_eq] at hk
    obtain ⟨rfl, ht⟩ := hk
    cases hx
    exact mm_goto hd ht k
  · simp only [mm_k2, Bool.and_eq_true, beq_iff_eq] at hk
    obtain ⟨rfl, h1⟩ := hk
    split at hx
    · rename_i n q r
      split at hx
      · rename_i w hw
        cases h9 : x == 99 with
        | true => rw [h9] at hx; cases hx
        | false =>
          rw [h9] at hx; cases hx
          rw [h9, Bool.false_or] at h1
          unfold mm_gf at hw
          split at hw
          · rename_i ci fs hs
            cases hci : ci == x with
            | false => rw [hci] at hw; cases hw
            | true =>
              rw [hci] at hw
              have e : ci = x := by simpa using hci
              subst e
              simp only [cond_true] at hw
              split at hw
              · rename_i cd hf
                cases hw
                exact mm_get (mm_fm_lk h1) hs hf hd k
              · cases hw
          · cases hw
      · cases hx
    · cases hx
  · simp only [mm_k2, Bool.and_eq_true, beq_iff_eq] at hk
    obtain ⟨rfl, h1, h2⟩ := hk
    split at hx
    · rename_i n w q r
      split at hx
      · rename_i cs1 h' hw
        cases hx
        unfold mm_wr at hw
        split at hw
        · rename_i ci fs hs
          cases hci : ci == x with
          | false => rw [hci] at hw; cases hw
          | true =>
            rw [hci] at hw
            have e : ci = x := by simpa using hci
            subst e
            simp only [cond_true] at hw
            split at hw
            · rename_i cd hf
              refine mm_put (mm_fm_lk h1) ?_ hs hf hw hc hd k
              intro q hq hfin
              unfold mm_ff at h2
              rw [hq] at h2
              simp only [hfin, Bool.not_true, Bool.false_or, Bool.and_eq_true, decide_eq_true_eq] at h2
              exact h2
            · cases hw
        · cases hw
      · cases hx
    · cases hx
  · split at hx
    · rename_i a q r
      split at hx
      · rename_i n hs
        cases hl : len == 1 with
        | false => rw [hl] at hx; cases hx
        | true =>
          rw [hl] at hx; cases hx
          have e : len = 1 := by simpa using hl
          subst e
          exact mm_iald hs hc hd k
      · cases hx
    · rename_i a u r
      cases hl : len == 1 with
      | false => rw [hl] at hx; cases hx
      | true =>
        rw [hl] at hx; cases hx
        have e : len = 1 := by simpa using hl
        subst e
        exact mm_sald hc hd k
    · cases hx
  · split at hx
    · rename_i a q r
      split at hx
      · rename_i n hs
        cases hl : len == 1 with
        | false => rw [hl] at hx; cases hx
        | true =>
          rw [hl] at hx; cases hx
          have e : len = 1 := by simpa using hl
          subst e
          exact mm_zald hs hc hd k
      · cases hx
    · cases hx
  · split at hx
    · rename_i b a q r
      split at hx
      · rename_i n hs
        cases hl : len == 1 with
        | false => rw [hl] at hx; cases hx
        | true =>
          rw [hl] at hx; cases hx
          have e : len = 1 := by simpa using hl
          subst e
          exact mm_iast hs hc hd k
      · cases hx
    · cases hx
  · split at hx
    · rename_i b a q r
      split at hx
      · rename_i n hs
        cases hl : len == 1 with
        | false => rw [hl] at hx; cases hx
        | true =>
          rw [hl] at hx; cases hx
          have e : len = 1 := by simpa using hl
          subst e
          exact mm_zast hs hc.1 hc.2 hd k
      · cases hx
    · cases hx
  · split at hx
    · rename_i q r
      split at hx
      · rename_i t n hs
        cases hl : len == 1 && Nat.blt t 5 with
        | false => rw [hl] at hx; cases hx
        | true =>
          rw [hl] at hx; cases hx
          rw [Bool.and_eq_true] at hl
          have e : len = 1 := by simpa using hl.1
          subst e
          exact mm_ialn (Nat.blt_eq.mp hl.2) hs hd k
      · cases hx
    · rename_i u r
      cases hl : len == 1 with
      | false => rw [hl] at hx; cases hx
      | true =>
        rw [hl] at hx; cases hx
        have e : len = 1 := by simpa using hl
        subst e
        exact mm_slen hd k
    · cases hx
  · split at hx
    · rename_i cs1 st' ho
      cases hl : len == 1 with
      | false => rw [hl] at hx; cases hx
      | true =>
        rw [hl] at hx; cases hx
        have e : len = 1 := by simpa using hl
        subst e
        exact mm_op_ok ho hc hd k
    · cases hx
theorem mm_xs_ok : ∀ {es : List mm_E} {s s' : mm_S} {cs : List Prop}, es.all (mm_k M) = true → mm_xs es s = some (cs, s') → mm_all cs → mm_W d M mc ms Q nc ns s' → mm_W d M mc ms Q nc ns s := by
  intro es
  induction es with
  | nil => intro s s' cs _ hx _ k; cases hx; exact k
  | cons e es ih =>
    intro s s' cs hok hx hc k
    rw [List.all_cons, Bool.and_eq_true] at hok
    obtain ⟨pc', lv', st', h'⟩ := s
    obtain ⟨hk1, hk2⟩ := hok
    unfold mm_k at hk1
    rw [Bool.and_eq_true, decide_eq_true_eq] at hk1
    simp only [mm_xs] at hx
    cases hp : pc' == e.1 with
    | false => rw [hp] at hx; cases hx
    | true =>
      rw [hp] at hx
      have ep : pc' = e.1 := by simpa using hp
      subst ep
      simp only [cond_true] at hx
      split at hx
      · rename_i cs1 s1 h1
        split at hx
        · rename_i cs2 s2 h2
          cases hx
          obtain ⟨c1, c2⟩ := mm_all_app hc
          exact mm_x1_ok hk1.1 hk1.2 h1 c1 (ih hk2 h2 c2 k)
        · cases hx
      · cases hx
theorem mm_all_slice {cd : List mm_E} (hok : cd.all (mm_k M) = true) (i n : Nat) : ((cd.drop i).take n).all (mm_k M) = true := by
  rw [List.all_eq_true] at hok ⊢
  exact fun e he => hok e (List.mem_of_mem_drop (List.mem_of_mem_take he))
/-- rows i .. i + n - 1 of the code -/
theorem mm_B {cd : List mm_E} (hok : cd.all (mm_k M) = true) (i n : Nat) {s : mm_S} (s' : mm_S) (cs : List Prop) (hx : mm_xs ((cd.drop i).take n) s = some (cs, s')) (hc : mm_all cs) (k : mm_W d M mc ms Q nc ns s') : mm_W d M mc ms Q nc ns s :=
  mm_xs_ok (mm_all_slice hok i n) hx hc k
theorem mm_at {cd : List mm_E} (hok : cd.all (mm_k M) = true) {i : Nat} {e : mm_E} (he : cd[i]? = some e) : decode M.2.1 e.1 = .ok (e.2.1, e.2.2.1) ∧ mm_k2 M e.1 e.2.1 e.2.2.1 e.2.2.2.1 e.2.2.2.2.1 e.2.2.2.2.2 = true := by
  have h1 := List.all_eq_true.mp hok e (List.mem_of_getElem? he)
  unfold mm_k at h1
  rw [Bool.and_eq_true, decide_eq_true_eq] at h1
  exact h1
theorem mm_k2_off {i : Instr} {len x y : Nat} {v : Value} {st : List Value} {R : Prop × Prop × List Value} (hk : mm_k2 M pc i len x y v = true) (hb : mm_br i st = some R) : len = 3 ∧ (pc : Int) + mm_off i = (y : Int) := by
  unfold mm_br at hb
  split at hb <;> first | (cases hb; done) | (simp only [mm_k2, Bool.and_eq_true, beq_iff_eq, decide_eq_true_eq] at hk; exact hk)
/-- rows i .. i + n - 1, then a branch -/
theorem mm_I {cd : List mm_E} (hok : cd.all (mm_k M) = true) (i n : Nat) {s : mm_S} (pc' : Nat) (lv' : mm_L) (st' : List Value) (h' : mm_Hp) (cs : List Prop) {P P' : Prop} {r : List Value} {ins : Instr} {len x tgt : Nat} {v : Value} (hx : mm_xs ((cd.drop i).take n) s = some (cs, (pc', lv', st', h'))) (hc : mm_all cs) (he : cd[i + n]? = some (pc', ins, len, x, tgt, v)) (hb : mm_br ins st' = some (P, P', r)) (kt : P → mm_W d M mc ms Q nc ns (tgt, lv', r, h')) (kf : P' → mm_W d M mc ms Q nc ns (pc' + 3, lv', r, h')) : mm_W d M mc ms Q nc ns s := by
  refine mm_xs_ok (mm_all_slice hok i n) hx hc ?_
  obtain ⟨h1, h2⟩ := mm_at hok he
  obtain ⟨e3, e4⟩ := mm_k2_off h2 hb
  have e3 : len = 3 := e3
  subst e3
  exact mm_br_ok hb h1 e4 kt kf
end
end
section
/-! ===== new int[N][K] over the picture ===== -/
def mm_mg (g : Nat → Nat → Int32) (n N : Nat) : Nat → Nat → Int32 := fun a b => if a < n then g a b else if a = n then (if b < N then nI (n + b + 2) else 0) else 0
def mm_ml (g : Nat → Nat → Int64) (n : Nat) : Nat → Nat → Int64 := fun a b => if a < n then g a b else 0
def mm_mn (h : mm_Hp) (N K : Nat) : mm_Hp := ((h.1 ++ [.inl (4, N)]) ++ List.replicate N (.inl (0, K)), mm_mg h.2.1 h.1.length N, mm_ml h.2.2.1 h.1.length, h.2.2.2)
def mm_mx (ad : Nat → Nat) (n q : Nat) (r : Nat → Nat) : Nat → Nat := fun k => if k < n then ad k else if k = n then q else r (k - n - 1)
theorem mm_mx_lt {ad : Nat → Nat} {n q : Nat} {r : Nat → Nat} {k : Nat} (h : k < n) : mm_mx ad n q r k = ad k := if_pos h
theorem mm_mg_lt {g : Nat → Nat → Int32} {n N k : Nat} (h : k < n) : mm_mg g n N k = g k := by
  funext i
  simp [mm_mg, h]
theorem mm_ml_lt {g : Nat → Nat → Int64} {n k : Nat} (h : k < n) : mm_ml g n k = g k := by
  funext i
  simp [mm_ml, h]
theorem mm_cv_mn {X : mm_X} {ad : Nat → Nat} {h : mm_Hp} {c : mm_Sh} {q k N K : Nat} {r : Nat → Nat} (hw : mm_wf h) (hk : h.1[k]? = some c) : mm_cv X (mm_mx ad h.1.length q r) (mm_mn h N K) k c = mm_cv X ad h k c := by
  have hlt : k < h.1.length := (List.getElem?_eq_some_iff.mp hk).1
  obtain ⟨w1, w2⟩ := hw k c hk
  cases c with
  | inl a =>
    have e0 : (mm_mn h N K).2.1 k = h.2.1 k := mm_mg_lt hlt
    simp only [mm_cv, e0]
    by_cases ht : a.1 < 2
    · simp only [if_pos ht]
    · simp only [if_neg ht]
      congr 7
      funext i
      have h1 := (w1 a rfl).resolve_left ht i
      unfold mm_rd
      split
      · rfl
      · rename_i hx
        rw [mm_mx_lt]
        have : 0 < (h.2.1 k i).toNatClampNeg := by
          have h0 : (0 : Int32) < h.2.1 k i := by rw [← Int32.not_le]; exact hx
          have h2 : (0 : Int) < (h.2.1 k i).toInt := by simpa using Int32.lt_iff_toInt_lt.mp h0
          show 0 < (h.2.1 k i).toInt.toNat
          omega
        omega
  | inr o =>
    simp only [mm_cv]
    congr 2
    apply List.ext_getElem?
    intro j
    rw [List.getElem?_mapIdx, List.getElem?_mapIdx]
    have h1 := fun f hf => w2 o rfl f (List.mem_of_getElem? (i := j) hf)
    generalize o.2[j]? = z at h1
    cases z with
    | none => rw [Option.map_none, Option.map_none]
    | some f =>
      rw [Option.map_some, Option.map_some]
      have hf := h1 f rfl
      match f, hf with
      | 0, _ => exact congrArg (fun x => some (Value.int x)) (congrFun (mm_mg_lt hlt) j)
      | 1, _ => exact congrArg (fun x => some (Value.long x)) (congrFun (mm_ml_lt hlt) j)
      | 2, _ => rfl
      | f + 3, hf => exact congrArg (fun x => some (Value.ref x)) (mm_mx_lt (by omega))
theorem mm_lay_mn {X : mm_X} {ad : Nat → Nat} {h : mm_Hp} {q N K : Nat} {r : Nat → Nat} (f : Nat → va_E) (hw : mm_wf h) (hN : h.1.length + N + 2 < 2 ^ 31) : mm_lay X (mm_mx ad h.1.length q r) (mm_mn h N K) = (mm_lay X ad h ++ [(q, .inl (X.2.1 4, N, .inr (.inr (.inr (.inr (fun i => if i < N then some (r i) else none))))))]) ++ va_pl ([] ++ (List.range N).map r) (vr_up f ((List.range N).map r) (.inl (X.2.1 0, K, .inl (fun _ => 0)))) := by
  refine List.ext_getElem? (fun j => ?_)
  rw [mm_lay_get]
  have e1 : (mm_mn h N K).1 = (h.1 ++ [.inl (4, N)]) ++ List.replicate N (.inl (0, K)) := rfl
  rw [e1]
  have hlA : (mm_lay X ad h ++ [((q, .inl (X.2.1 4, N, .inr (.inr (.inr (.inr (fun i => if i < N then some (r i) else none)))))) : Nat × va_E)]).length = h.1.length + 1 := by rw [List.length_append, mm_lay_len]; rfl
  have hlB : (h.1 ++ [(.inl (4, N) : mm_Sh)]).length = h.1.length + 1 := by rw [List.length_append]; rfl
  by_cases hj : j < h.1.length
  · rw [List.getElem?_append_left (by omega), List.getElem?_append_left hj, List.getElem?_append_left (by omega), List.getElem?_append_left (by rw [mm_lay_len]; exact hj), mm_lay_get]
    have h2 := fun c hc => mm_cv_mn (X := X) (ad := ad) (q := q) (k := j) (c := c) (N := N) (K := K) (r := r) hw hc
    generalize h.1[j]? = z at h2
    cases z with
    | none => rw [Option.map_none, Option.map_none]
    | some c => rw [Option.map_some, Option.map_some, h2 c rfl, mm_mx_lt hj]
  · by_cases e : j = h.1.length
    · subst e
      rw [List.getElem?_append_left (by omega), List.getElem?_append_right (by omega), List.getElem?_append_left (by omega), List.getElem?_append_right (by rw [mm_lay_len]; omega), mm_lay_len, Nat.sub_self]
      show some (mm_mx ad h.1.length q r h.1.length, mm_cv X (mm_mx ad h.1.length q r) (mm_mn h N K) h.1.length (.inl (4, N))) = some (q, _)
      have e5 : mm_mx ad h.1.length q r h.1.length = q := by simp [mm_mx]
      rw [e5]
      congr 2
      simp only [mm_cv, if_neg (show ¬ (4 : Nat) < 2 by decide)]
      congr 7
      funext i
      show mm_rd _ (mm_mg h.2.1 h.1.length N h.1.length i) = _
      have e6 : mm_mg h.2.1 h.1.length N h.1.length i = if i < N then nI (h.1.length + i + 2) else 0 := by simp [mm_mg]
      rw [e6]
      by_cases hi : i < N
      · rw [if_pos hi, if_pos hi, show h.1.length + i + 2 = (h.1.length + i + 1) + 1 by omega, mm_rd_ref (by omega)]
        congr 1
        unfold mm_mx
        rw [if_neg (by omega), if_neg (by omega)]
        congr 1
        omega
      · rw [if_neg hi, if_neg hi]
        rfl
    · rw [List.getElem?_append_right (by omega), List.getElem?_append_right (by omega), hlA, hlB]
      unfold va_pl
      rw [List.nil_append, List.getElem?_map, List.getElem?_map]
      by_cases hN' : j - (h.1.length + 1) < N
      · rw [List.getElem?_replicate, if_pos hN', List.getElem?_range hN', Option.map_some, Option.map_some, Option.map_some]
        have e7 : mm_mx ad h.1.length q r j = r (j - (h.1.length + 1)) := by
          unfold mm_mx
          rw [if_neg hj, if_neg e]
          congr 1
        rw [e7, vr_up_in (List.mem_map.mpr ⟨_, List.mem_range.mpr hN', rfl⟩)]
        congr 2
        simp only [mm_cv, if_pos (show (0 : Nat) < 2 by decide)]
        congr 4
        funext i
        show mm_mg h.2.1 h.1.length N j i = 0
        simp [mm_mg, hj, e]
      · rw [List.getElem?_replicate, if_neg hN', List.getElem?_eq_none (by rw [List.length_range]; omega)]
        rfl
section
variable {d : Nat} {M : mm_M} {mc ms : Nat} {Q : Option Value → mm_Hp → Prop} {nc ns pc : Nat} {lv : mm_L} {st : List Value} {h : mm_Hp}
theorem mm_mna {n k : Int32} {N K idx : Nat} (hcl : Cond.classLink M.1.cls idx "[[I" ∈ mm_G) (harr : Cond.arrayClass .int ∈ mm_G) (hn0 : ¬ n < 0) (hk0 : ¬ k < 0) (hN : n.toNatClampNeg = N) (hK : k.toNatClampNeg = K) (hN1 : N ≤ 100000) (hK1 : K ≤ 100000) (hL : h.1.length ≤ 1000000) (hd : decode M.2.1 pc = .ok (.multianewarray idx 2, 4)) (hm : nc + 1 + N ≤ mc ∧ ns + N + N * K ≤ ms) (hw : mm_wf h) (hvs : mm_vs h.1.length lv st)
    (kk : mm_W d M mc ms Q (nc + 1 + N) (ns + N + N * K) (pc + 4, lv, .ref h.1.length :: st, mm_mn h N K)) : mm_W d M mc ms Q nc ns (pc, lv, .int k :: .int n :: st, h) := by
  intro p l e s m args below meth c X ad0 n0 ad H locs ls C ha hn hR hS hl
  have C' := C
  obtain ⟨hx, hb, hml, hr, hlo, hown, hts, hnm, hT, hO⟩ := C'
  have hA : ∀ q : Nat, s.heap.size ≤ q → mm_A X q := fun q hq => Nat.le_trans hO.2.2.2.2.1 hq
  have hcy : s.vm.findClass (FieldType.array .int).toString = some (X.2.1 0) := (hT.1.2 0 _ rfl).2
  have hl0 : mm_lay X ad h = mm_lay X ad h ++ va_pl [] (fun _ => .inr (0, [])) := (List.append_nil _).symm
  refine va_mna (D := X.1) (cl := vwCl) (X := mm_lay X ad h) (L := []) (f := fun _ => .inr (0, [])) (ty := .int) (cy := X.2.1 0) (z := (K, .inl (fun _ => 0))) hx hb hown (hts _ hcl) hT.2.2.2.2.1 (hts _ harr) hcy hT.1 (by rw [← hl0]; exact hR.1) (by rw [← hl0]; exact hR.2.1) hS hA hn0 hk0 hN hK (by omega) (by show K * 4 ≤ _; omega) (by omega) (by decide +kernel) (by decide +kernel) (by show nc + (1 + N) ≤ mc; omega) (by show ns + (N + N * K) ≤ ms; omega) ?_ hd (fun q rr cA H1 hinj hnot hK1 hP1 hD1 hS1 => ?_)
  · intro c
    show ({ cls := c, slots := Array.replicate K (.int 0), vm := .none } : Cell) = _
    rw [arrV_new]
    rfl
  · have ec := mm_uniq (t := 4) hT.1 rfl hK1
    subst ec
    have hag : ∀ k, k < h.1.length → mm_mx ad h.1.length q rr k = ad k := fun k hk => mm_mx_lt hk
    have e3 := mm_lay_mn (X := X) (ad := ad) (q := q) (N := N) (K := K) (r := rr) (fun _ => .inr (0, [])) hw (by omega)
    have k' := kk p l e s m args below meth c X ad0 n0 (mm_mx ad h.1.length q rr) H1 locs ls C (fun k hk => (hag k (Nat.lt_of_lt_of_le hk hn)).trans (ha k hk)) (by show n0 ≤ ((h.1 ++ [_]) ++ _).length; rw [List.length_append, List.length_append]; have : n0 ≤ h.1.length := hn; omega) ⟨by rw [e3]; exact hP1, by rw [e3]; exact hD1, hR.2.2⟩ hS1 (hl.ext hag hvs.1)
    simp only [List.map_cons, mm_st_ext hag hvs.2] at k'
    rw [show mm_rv X (mm_mx ad h.1.length q rr) (.ref h.1.length) = .ref q from congrArg Value.ref (by simp [mm_mx])] at k'
    exact k'
end
end
section
/-! ===== String constants over the picture: .retAddr i the text i, .retAddr (100 + i) its bytes, .retAddr 200 a formatter that is never used ===== -/
theorem mm_rv_k {X : mm_X} {ad : Nat → Nat} {i : Nat} (hi : i < 12) : mm_rv X ad (.retAddr i) = .ref (X.2.2.2.1.1 i) := by
  have : Nat.ble 100 i = false := by
    cases h9 : Nat.ble 100 i with
    | false => rfl
    | true => have := Nat.le_of_ble_eq_true h9; omega
  simp [mm_rv, this]
theorem mm_rv_b {X : mm_X} {ad : Nat → Nat} {i : Nat} (hi : i < 12) : mm_rv X ad (.retAddr (100 + i)) = .ref (X.2.2.2.1.2 i) := by
  have h1 : Nat.ble 100 (100 + i) = true := Nat.ble_eq_true_of_le (by omega)
  have h2 : Nat.blt (100 + i) 200 = true := Nat.blt_eq.mpr (by omega)
  simp [mm_rv, h1, h2]
section
variable {d : Nat} {M : mm_M} {mc ms : Nat} {Q : Option Value → mm_Hp → Prop} {nc ns pc : Nat} {lv : mm_L} {st : List Value} {h : mm_Hp}
theorem mm_gsC {idx : Nat} (hlk : Cond.fieldLink M.1.cls idx "java/lang/String" "COMPACT_STRINGS" "Z" ∈ mm_G) (hd : decode M.2.1 pc = .ok (.getstatic idx, 3)) (k : mm_W d M mc ms Q nc ns (pc + 3, lv, .int 1 :: st, h)) : mm_W d M mc ms Q nc ns (pc, lv, st, h) := by
  intro p l e s m args below meth c X ad0 n0 ad H locs ls C ha hn hR hS hl
  have k' := k p l e s m args below meth c X ad0 n0 ad H locs ls C ha hn hR hS hl
  obtain ⟨hx, hb, hml, hr, hlo, hown, hts, hnm, hT, hO⟩ := C
  exact va_gets hx hb hO.2.1 hS hown (hts _ hlk) (fun x hx => hx) hd k'
theorem mm_gsF {idx : Nat} (hlk : Cond.fieldLink M.1.cls idx "jdk/internal/util/Preconditions" "SIOOBE_FORMATTER" "Ljava/util/function/BiFunction;" ∈ mm_G) (hd : decode M.2.1 pc = .ok (.getstatic idx, 3)) (k0 : mm_W d M mc ms Q nc ns (pc + 3, lv, .null :: st, h)) (k1 : mm_W d M mc ms Q nc ns (pc + 3, lv, .retAddr 200 :: st, h)) : mm_W d M mc ms Q nc ns (pc, lv, st, h) := by
  intro p l e s m args below meth c X ad0 n0 ad H locs ls C ha hn hR hS hl
  have k0' := k0 p l e s m args below meth c X ad0 n0 ad H locs ls C ha hn hR hS hl
  have k1' := k1 p l e s m args below meth c X ad0 n0 ad H locs ls C ha hn hR hS hl
  obtain ⟨hx, hb, hml, hr, hlo, hown, hts, hnm, hT, hO⟩ := C
  rcases hO.2.2.2.2.2 with hz | hz
  · exact va_gets hx hb hz hS hown (hts _ hlk) (fun x hx => hx) hd k0'
  · exact va_gets hx hb hz hS hown (hts _ hlk) (fun x hx => hx) hd k1'
theorem mm_gfV {idx i : Nat} (hi : i < 12) (hlk : Cond.fieldLink M.1.cls idx "java/lang/String" "value" "[B" ∈ mm_G) (hd : decode M.2.1 pc = .ok (.getfield idx, 3)) (k : mm_W d M mc ms Q nc ns (pc + 3, lv, .retAddr (100 + i) :: st, h)) : mm_W d M mc ms Q nc ns (pc, lv, .retAddr i :: st, h) := by
  intro p l e s m args below meth c X ad0 n0 ad H locs ls C ha hn hR hS hl
  have k' := k p l e s m args below meth c X ad0 n0 ad H locs ls C ha hn hR hS hl
  obtain ⟨hx, hb, hml, hr, hlo, hown, hts, hnm, hT, hO⟩ := C
  simp only [List.map_cons, mm_rv_b hi] at k'
  simp only [List.map_cons, mm_rv_k hi]
  exact vk_getf hx hb (hO.1.1 i hi).2.2.1 hS hown (hts _ hlk) (fun x hx => hx) hd k'
theorem mm_gfC {idx i : Nat} (hi : i < 12) (hlk : Cond.fieldLink M.1.cls idx "java/lang/String" "coder" "B" ∈ mm_G) (hd : decode M.2.1 pc = .ok (.getfield idx, 3)) (k : mm_W d M mc ms Q nc ns (pc + 3, lv, .int 0 :: st, h)) : mm_W d M mc ms Q nc ns (pc, lv, .retAddr i :: st, h) := by
  intro p l e s m args below meth c X ad0 n0 ad H locs ls C ha hn hR hS hl
  have k' := k p l e s m args below meth c X ad0 n0 ad H locs ls C ha hn hR hS hl
  obtain ⟨hx, hb, hml, hr, hlo, hown, hts, hnm, hT, hO⟩ := C
  simp only [List.map_cons, mm_rv_k hi]
  exact vk_getf hx hb (hO.1.1 i hi).2.1 hS hown (hts _ hlk) (fun x hx => hx) hd k'
theorem mm_stl' {i : Nat} (hi : i < 12) (hd : decode M.2.1 pc = .ok (.arraylength, 1)) (k : mm_W d M mc ms Q nc ns (pc + 1, lv, .int (nI (mm_sl.getD i 0)) :: st, h)) : mm_W d M mc ms Q nc ns (pc, lv, .retAddr (100 + i) :: st, h) := by
  intro p l e s m args below meth c X ad0 n0 ad H locs ls C ha hn hR hS hl
  have k' := k p l e s m args below meth c X ad0 n0 ad H locs ls C ha hn hR hS hl
  obtain ⟨hx, hb, hml, hr, hlo, hown, hts, hnm, hT, hO⟩ := C
  simp only [List.map_cons, mm_rv_b hi]
  exact va_tlen hx hb (hO.1.1 i hi).2.2.2 hS rfl hd k'
theorem mm_stb {i : Nat} {a : Int32} (hi : i < 12) (ha0 : vp_in a (mm_sl.getD i 0)) (hd : decode M.2.1 pc = .ok (.baload, 1)) (k : mm_W d M mc ms Q nc ns (pc + 1, lv, .int ((mm_sb.getD i []).getD a.toNatClampNeg 0) :: st, h)) : mm_W d M mc ms Q nc ns (pc, lv, .int a :: .retAddr (100 + i) :: st, h) := by
  intro p l e s m args below meth c X ad0 n0 ad H locs ls C ha hn hR hS hl
  have k' := k p l e s m args below meth c X ad0 n0 ad H locs ls C ha hn hR hS hl
  obtain ⟨hx, hb, hml, hr, hlo, hown, hts, hnm, hT, hO⟩ := C
  simp only [List.map_cons, mm_rv_b hi]
  exact va_tb hx hb (hO.1.1 i hi).2.2.2 hS ha0 rfl hd k'
/-- a String's own method, of a constant -/
theorem mm_cT {N : mm_M} {as : List Value} {i idx d' mc' ms' : Nat} {Q' : Option Value → mm_Hp → Prop} (hi : i < 12) (hN : mm_cw N as.length) (hlk : Cond.methodLink M.1.cls idx N.1 ∈ mm_G) (hin : Cond.instanceMethod N.1 ∈ mm_G) (hsl : Cond.selects "java/lang/String" N.1 N.1 ∈ mm_G) (hd : decode M.2.1 pc = .ok (.invokevirtual idx, 3)) (hct : mm_Ct d' N (.retAddr i :: as) h mc' ms' Q') (hdd : d' + 1 ≤ d) (hm : nc + mc' ≤ mc ∧ ns + ms' ≤ ms) (hcat : (st.map Value.category).sum ≤ 8) (hvs : mm_vs h.1.length lv st)
    (kk : ∀ v h', Q' v h' → mm_W d M mc ms Q (nc + mc') (ns + ms') (pc + 3, lv, v.toList ++ st, h')) : mm_W d M mc ms Q nc ns (pc, lv, as.reverse ++ .retAddr i :: st, h) := by
  intro p l e s m args below meth c X ad0 n0 ad H locs ls C ha hn hR hS hl
  have C' := C
  obtain ⟨hx, hb, hml, hr, hlo, hown, hts, hnm, hT, hO⟩ := C'
  refine mm_after hvs kk C ha hn hS hl (a := ((.retAddr i :: as).map (mm_rv X ad)).toArray) ?_
  have e0 := mm_rv_k (X := X) (ad := ad) hi
  have hpre := mm_pre (as := .retAddr i :: as) hT hO hR hS
  simp only [List.map_cons, e0] at hpre ⊢
  refine va_runV (As := as.map (mm_rv X ad)) (C := "java/lang/String") (n := as.length) (b := X.2.2.2.1.1 i) ⟨hx, hb, hml, hown, hts⟩ (hct l X ad) ⟨mm_CB hN hlk hdd hts, hts _ hin, hts _ hsl⟩ ⟨mm_P_blind, vk_recv hO.1 hi hS, hpre⟩ rfl (by rw [List.length_map]) hl.2.1 ?_ (lv_room (m := m) (pc := pc) (ls := ls) (rest := []) (mm_cats hcat)) hd hm
  show ((as.reverse ++ .retAddr i :: st).map (mm_rv X ad)) = _
  rw [List.map_append, List.map_reverse, List.map_cons, e0]
end
end
