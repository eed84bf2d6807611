section
-- ===== PART A: goes FIRST, ahead of the names: the tables' words, and 'selects' of the private methods out of them =====
/-- a private method of a class that the tables say can be made, by its rows of tables_1 -/
def lw_okq (q : MethodName × Nat) : Prop := (q.1.cls ≠ "java/lang/invoke/MethodHandle" ∧ q.1.cls ≠ "java/lang/invoke/VarHandle") ∧ Cond.instantiable q.1.cls q.2 ∈ tables_1 ∧ Cond.privateMethod q.1 ∈ tables_1 ∧ Cond.instanceMethod q.1 ∈ tables_1
theorem lw_p0 : lw_okq (⟨"SchoolOnRaft", "bring", "(II)I"⟩, 10) := ⟨⟨by decide +kernel, by decide +kernel⟩, List.mem_of_getElem? (i := 23) (by decide +kernel), List.mem_of_getElem? (i := 316) (by decide +kernel), List.mem_of_getElem? (i := 317) (by decide +kernel)⟩
theorem lw_p1 : lw_okq (⟨"SchoolOnRaft", "maySet", "(III)Z"⟩, 10) := ⟨⟨by decide +kernel, by decide +kernel⟩, List.mem_of_getElem? (i := 23) (by decide +kernel), List.mem_of_getElem? (i := 334) (by decide +kernel), List.mem_of_getElem? (i := 335) (by decide +kernel)⟩
theorem lw_p2 : lw_okq (⟨"SchoolOnRaft", "isLesson", "(I)Z"⟩, 10) := ⟨⟨by decide +kernel, by decide +kernel⟩, List.mem_of_getElem? (i := 23) (by decide +kernel), List.mem_of_getElem? (i := 338) (by decide +kernel), List.mem_of_getElem? (i := 339) (by decide +kernel)⟩
theorem lw_p3 : lw_okq (⟨"SchoolOnRaft", "isChild", "(I)Z"⟩, 10) := ⟨⟨by decide +kernel, by decide +kernel⟩, List.mem_of_getElem? (i := 23) (by decide +kernel), List.mem_of_getElem? (i := 342) (by decide +kernel), List.mem_of_getElem? (i := 343) (by decide +kernel)⟩
theorem lw_p4 : lw_okq (⟨"SchoolOnRaft", "settable", "(I)[I"⟩, 10) := ⟨⟨by decide +kernel, by decide +kernel⟩, List.mem_of_getElem? (i := 23) (by decide +kernel), List.mem_of_getElem? (i := 346) (by decide +kernel), List.mem_of_getElem? (i := 347) (by decide +kernel)⟩
theorem lw_p5 : lw_okq (⟨"SchoolOnRaft", "planOf", "(I)[I"⟩, 10) := ⟨⟨by decide +kernel, by decide +kernel⟩, List.mem_of_getElem? (i := 23) (by decide +kernel), List.mem_of_getElem? (i := 411) (by decide +kernel), List.mem_of_getElem? (i := 412) (by decide +kernel)⟩
theorem lw_p6 : lw_okq (⟨"SchoolOnRaft$Reader", "advance", "()V"⟩, 7) := ⟨⟨by decide +kernel, by decide +kernel⟩, List.mem_of_getElem? (i := 224) (by decide +kernel), List.mem_of_getElem? (i := 431) (by decide +kernel), List.mem_of_getElem? (i := 432) (by decide +kernel)⟩
theorem lw_p7 : lw_okq (⟨"SchoolOnRaft$Reader", "number", "()I"⟩, 7) := ⟨⟨by decide +kernel, by decide +kernel⟩, List.mem_of_getElem? (i := 224) (by decide +kernel), List.mem_of_getElem? (i := 438) (by decide +kernel), List.mem_of_getElem? (i := 439) (by decide +kernel)⟩
theorem lw_p8 : lw_okq (⟨"SchoolOnRaft$Reader", "word", "()I"⟩, 7) := ⟨⟨by decide +kernel, by decide +kernel⟩, List.mem_of_getElem? (i := 224) (by decide +kernel), List.mem_of_getElem? (i := 445) (by decide +kernel), List.mem_of_getElem? (i := 446) (by decide +kernel)⟩
theorem lw_p9 : lw_okq (⟨"SchoolOnRaft$Reader", "reads", "(Ljava/lang/String;)Z"⟩, 7) := ⟨⟨by decide +kernel, by decide +kernel⟩, List.mem_of_getElem? (i := 224) (by decide +kernel), List.mem_of_getElem? (i := 450) (by decide +kernel), List.mem_of_getElem? (i := 451) (by decide +kernel)⟩
theorem lw_p10 : lw_okq (⟨"SchoolOnRaft$Reader", "section", "(I)[I"⟩, 7) := ⟨⟨by decide +kernel, by decide +kernel⟩, List.mem_of_getElem? (i := 224) (by decide +kernel), List.mem_of_getElem? (i := 516) (by decide +kernel), List.mem_of_getElem? (i := 517) (by decide +kernel)⟩
theorem lw_p11 : lw_okq (⟨"SchoolOnRaft$Reader", "either", "(I)Z"⟩, 7) := ⟨⟨by decide +kernel, by decide +kernel⟩, List.mem_of_getElem? (i := 224) (by decide +kernel), List.mem_of_getElem? (i := 520) (by decide +kernel), List.mem_of_getElem? (i := 521) (by decide +kernel)⟩
theorem lw_p12 : lw_okq (⟨"SchoolOnRaft$Reader", "both", "(I)Z"⟩, 7) := ⟨⟨by decide +kernel, by decide +kernel⟩, List.mem_of_getElem? (i := 224) (by decide +kernel), List.mem_of_getElem? (i := 524) (by decide +kernel), List.mem_of_getElem? (i := 525) (by decide +kernel)⟩
theorem lw_p13 : lw_okq (⟨"SchoolOnRaft$Reader", "denied", "(I)Z"⟩, 7) := ⟨⟨by decide +kernel, by decide +kernel⟩, List.mem_of_getElem? (i := 224) (by decide +kernel), List.mem_of_getElem? (i := 528) (by decide +kernel), List.mem_of_getElem? (i := 529) (by decide +kernel)⟩
theorem lw_p14 : lw_okq (⟨"SchoolOnRaft$Reader", "compared", "(I)Z"⟩, 7) := ⟨⟨by decide +kernel, by decide +kernel⟩, List.mem_of_getElem? (i := 224) (by decide +kernel), List.mem_of_getElem? (i := 532) (by decide +kernel), List.mem_of_getElem? (i := 533) (by decide +kernel)⟩
theorem lw_p15 : lw_okq (⟨"SchoolOnRaft$Reader", "sum", "(I)Z"⟩, 7) := ⟨⟨by decide +kernel, by decide +kernel⟩, List.mem_of_getElem? (i := 224) (by decide +kernel), List.mem_of_getElem? (i := 536) (by decide +kernel), List.mem_of_getElem? (i := 537) (by decide +kernel)⟩
def lw_privs_1 : List (MethodName × Nat) := [(⟨"SchoolOnRaft", "bring", "(II)I"⟩, 10), (⟨"SchoolOnRaft", "maySet", "(III)Z"⟩, 10), (⟨"SchoolOnRaft", "isLesson", "(I)Z"⟩, 10), (⟨"SchoolOnRaft", "isChild", "(I)Z"⟩, 10), (⟨"SchoolOnRaft", "settable", "(I)[I"⟩, 10), (⟨"SchoolOnRaft", "planOf", "(I)[I"⟩, 10), (⟨"SchoolOnRaft$Reader", "advance", "()V"⟩, 7), (⟨"SchoolOnRaft$Reader", "number", "()I"⟩, 7), (⟨"SchoolOnRaft$Reader", "word", "()I"⟩, 7), (⟨"SchoolOnRaft$Reader", "reads", "(Ljava/lang/String;)Z"⟩, 7), (⟨"SchoolOnRaft$Reader", "section", "(I)[I"⟩, 7), (⟨"SchoolOnRaft$Reader", "either", "(I)Z"⟩, 7), (⟨"SchoolOnRaft$Reader", "both", "(I)Z"⟩, 7), (⟨"SchoolOnRaft$Reader", "denied", "(I)Z"⟩, 7), (⟨"SchoolOnRaft$Reader", "compared", "(I)Z"⟩, 7), (⟨"SchoolOnRaft$Reader", "sum", "(I)Z"⟩, 7)]
theorem lw_r1 : ∀ q ∈ lw_privs_1, lw_okq q := List.forall_mem_cons.mpr ⟨lw_p0, List.forall_mem_cons.mpr ⟨lw_p1, List.forall_mem_cons.mpr ⟨lw_p2, List.forall_mem_cons.mpr ⟨lw_p3, List.forall_mem_cons.mpr ⟨lw_p4, List.forall_mem_cons.mpr ⟨lw_p5, List.forall_mem_cons.mpr ⟨lw_p6, List.forall_mem_cons.mpr ⟨lw_p7, List.forall_mem_cons.mpr ⟨lw_p8, List.forall_mem_cons.mpr ⟨lw_p9, List.forall_mem_cons.mpr ⟨lw_p10, List.forall_mem_cons.mpr ⟨lw_p11, List.forall_mem_cons.mpr ⟨lw_p12, List.forall_mem_cons.mpr ⟨lw_p13, List.forall_mem_cons.mpr ⟨lw_p14, List.forall_mem_cons.mpr ⟨lw_p15, fun _ h => absurd h List.not_mem_nil⟩⟩⟩⟩⟩⟩⟩⟩⟩⟩⟩⟩⟩⟩⟩⟩
theorem lw_p16 : lw_okq (⟨"SchoolOnRaft$Reader", "term", "(I)Z"⟩, 7) := ⟨⟨by decide +kernel, by decide +kernel⟩, List.mem_of_getElem? (i := 224) (by decide +kernel), List.mem_of_getElem? (i := 540) (by decide +kernel), List.mem_of_getElem? (i := 541) (by decide +kernel)⟩
theorem lw_p17 : lw_okq (⟨"SchoolOnRaft$Reader", "one", "(I)Z"⟩, 7) := ⟨⟨by decide +kernel, by decide +kernel⟩, List.mem_of_getElem? (i := 224) (by decide +kernel), List.mem_of_getElem? (i := 544) (by decide +kernel), List.mem_of_getElem? (i := 545) (by decide +kernel)⟩
theorem lw_p18 : lw_okq (⟨"SchoolOnRaft$Reader", "write", "(I)V"⟩, 7) := ⟨⟨by decide +kernel, by decide +kernel⟩, List.mem_of_getElem? (i := 224) (by decide +kernel), List.mem_of_getElem? (i := 548) (by decide +kernel), List.mem_of_getElem? (i := 549) (by decide +kernel)⟩
theorem lw_p19 : lw_okq (⟨"SchoolOnRaft$Spring", "stage", "(IIIII)V"⟩, 7) := ⟨⟨by decide +kernel, by decide +kernel⟩, List.mem_of_getElem? (i := 31) (by decide +kernel), List.mem_of_getElem? (i := 629) (by decide +kernel), List.mem_of_getElem? (i := 630) (by decide +kernel)⟩
theorem lw_p20 : lw_okq (⟨"SchoolOnRaft$Spring", "ruleText", "()LSchoolOnRaft$Text;"⟩, 7) := ⟨⟨by decide +kernel, by decide +kernel⟩, List.mem_of_getElem? (i := 31) (by decide +kernel), List.mem_of_getElem? (i := 633) (by decide +kernel), List.mem_of_getElem? (i := 634) (by decide +kernel)⟩
theorem lw_p21 : lw_okq (⟨"SchoolOnRaft$Spring", "worked", "([I)I"⟩, 7) := ⟨⟨by decide +kernel, by decide +kernel⟩, List.mem_of_getElem? (i := 31) (by decide +kernel), List.mem_of_getElem? (i := 637) (by decide +kernel), List.mem_of_getElem? (i := 638) (by decide +kernel)⟩
theorem lw_p22 : lw_okq (⟨"SchoolOnRaft", "pointsOfAll", "([I)I"⟩, 10) := ⟨⟨by decide +kernel, by decide +kernel⟩, List.mem_of_getElem? (i := 23) (by decide +kernel), List.mem_of_getElem? (i := 660) (by decide +kernel), List.mem_of_getElem? (i := 661) (by decide +kernel)⟩
theorem lw_p23 : lw_okq (⟨"SchoolOnRaft$Search", "visit", "(LSchoolOnRaft$Spring;I)V"⟩, 7) := ⟨⟨by decide +kernel, by decide +kernel⟩, List.mem_of_getElem? (i := 194) (by decide +kernel), List.mem_of_getElem? (i := 685) (by decide +kernel), List.mem_of_getElem? (i := 686) (by decide +kernel)⟩
theorem lw_p24 : lw_okq (⟨"SchoolOnRaft$Search", "weigh", "(LSchoolOnRaft$Spring;)V"⟩, 7) := ⟨⟨by decide +kernel, by decide +kernel⟩, List.mem_of_getElem? (i := 194) (by decide +kernel), List.mem_of_getElem? (i := 689) (by decide +kernel), List.mem_of_getElem? (i := 690) (by decide +kernel)⟩
theorem lw_p25 : lw_okq (⟨"SchoolOnRaft$Search", "step", "(LSchoolOnRaft$Spring;II)Z"⟩, 7) := ⟨⟨by decide +kernel, by decide +kernel⟩, List.mem_of_getElem? (i := 194) (by decide +kernel), List.mem_of_getElem? (i := 698) (by decide +kernel), List.mem_of_getElem? (i := 699) (by decide +kernel)⟩
theorem lw_p26 : lw_okq (⟨"SchoolOnRaft$Search", "listens", "(LSchoolOnRaft$Spring;IIII)Z"⟩, 7) := ⟨⟨by decide +kernel, by decide +kernel⟩, List.mem_of_getElem? (i := 194) (by decide +kernel), List.mem_of_getElem? (i := 702) (by decide +kernel), List.mem_of_getElem? (i := 703) (by decide +kernel)⟩
theorem lw_p27 : lw_okq (⟨"SchoolOnRaft", "costOf", "(III)I"⟩, 10) := ⟨⟨by decide +kernel, by decide +kernel⟩, List.mem_of_getElem? (i := 23) (by decide +kernel), List.mem_of_getElem? (i := 718) (by decide +kernel), List.mem_of_getElem? (i := 719) (by decide +kernel)⟩
theorem lw_p28 : lw_okq (⟨"SchoolOnRaft", "pointsChanging", "(II)I"⟩, 10) := ⟨⟨by decide +kernel, by decide +kernel⟩, List.mem_of_getElem? (i := 23) (by decide +kernel), List.mem_of_getElem? (i := 734) (by decide +kernel), List.mem_of_getElem? (i := 735) (by decide +kernel)⟩
theorem lw_p29 : lw_okq (⟨"SchoolOnRaft", "refusalOfExam", "(II)I"⟩, 10) := ⟨⟨by decide +kernel, by decide +kernel⟩, List.mem_of_getElem? (i := 23) (by decide +kernel), List.mem_of_getElem? (i := 742) (by decide +kernel), List.mem_of_getElem? (i := 743) (by decide +kernel)⟩
theorem lw_p30 : lw_okq (⟨"SchoolOnRaft", "ownedAtEnd", "(I[I)I"⟩, 10) := ⟨⟨by decide +kernel, by decide +kernel⟩, List.mem_of_getElem? (i := 23) (by decide +kernel), List.mem_of_getElem? (i := 762) (by decide +kernel), List.mem_of_getElem? (i := 763) (by decide +kernel)⟩
theorem lw_p31 : lw_okq (⟨"SchoolOnRaft", "endsOf", "(I)I"⟩, 10) := ⟨⟨by decide +kernel, by decide +kernel⟩, List.mem_of_getElem? (i := 23) (by decide +kernel), List.mem_of_getElem? (i := 766) (by decide +kernel), List.mem_of_getElem? (i := 767) (by decide +kernel)⟩
def lw_privs_2 : List (MethodName × Nat) := [(⟨"SchoolOnRaft$Reader", "term", "(I)Z"⟩, 7), (⟨"SchoolOnRaft$Reader", "one", "(I)Z"⟩, 7), (⟨"SchoolOnRaft$Reader", "write", "(I)V"⟩, 7), (⟨"SchoolOnRaft$Spring", "stage", "(IIIII)V"⟩, 7), (⟨"SchoolOnRaft$Spring", "ruleText", "()LSchoolOnRaft$Text;"⟩, 7), (⟨"SchoolOnRaft$Spring", "worked", "([I)I"⟩, 7), (⟨"SchoolOnRaft", "pointsOfAll", "([I)I"⟩, 10), (⟨"SchoolOnRaft$Search", "visit", "(LSchoolOnRaft$Spring;I)V"⟩, 7), (⟨"SchoolOnRaft$Search", "weigh", "(LSchoolOnRaft$Spring;)V"⟩, 7), (⟨"SchoolOnRaft$Search", "step", "(LSchoolOnRaft$Spring;II)Z"⟩, 7), (⟨"SchoolOnRaft$Search", "listens", "(LSchoolOnRaft$Spring;IIII)Z"⟩, 7), (⟨"SchoolOnRaft", "costOf", "(III)I"⟩, 10), (⟨"SchoolOnRaft", "pointsChanging", "(II)I"⟩, 10), (⟨"SchoolOnRaft", "refusalOfExam", "(II)I"⟩, 10), (⟨"SchoolOnRaft", "ownedAtEnd", "(I[I)I"⟩, 10), (⟨"SchoolOnRaft", "endsOf", "(I)I"⟩, 10)]
theorem lw_r2 : ∀ q ∈ lw_privs_2, lw_okq q := List.forall_mem_cons.mpr ⟨lw_p16, List.forall_mem_cons.mpr ⟨lw_p17, List.forall_mem_cons.mpr ⟨lw_p18, List.forall_mem_cons.mpr ⟨lw_p19, List.forall_mem_cons.mpr ⟨lw_p20, List.forall_mem_cons.mpr ⟨lw_p21, List.forall_mem_cons.mpr ⟨lw_p22, List.forall_mem_cons.mpr ⟨lw_p23, List.forall_mem_cons.mpr ⟨lw_p24, List.forall_mem_cons.mpr ⟨lw_p25, List.forall_mem_cons.mpr ⟨lw_p26, List.forall_mem_cons.mpr ⟨lw_p27, List.forall_mem_cons.mpr ⟨lw_p28, List.forall_mem_cons.mpr ⟨lw_p29, List.forall_mem_cons.mpr ⟨lw_p30, List.forall_mem_cons.mpr ⟨lw_p31, fun _ h => absurd h List.not_mem_nil⟩⟩⟩⟩⟩⟩⟩⟩⟩⟩⟩⟩⟩⟩⟩⟩
theorem lw_p32 : lw_okq (⟨"SchoolOnRaft", "whoHave", "(I[I)I"⟩, 10) := ⟨⟨by decide +kernel, by decide +kernel⟩, List.mem_of_getElem? (i := 23) (by decide +kernel), List.mem_of_getElem? (i := 775) (by decide +kernel), List.mem_of_getElem? (i := 776) (by decide +kernel)⟩
theorem lw_p33 : lw_okq (⟨"SchoolOnRaft", "draw", "(II)V"⟩, 10) := ⟨⟨by decide +kernel, by decide +kernel⟩, List.mem_of_getElem? (i := 23) (by decide +kernel), List.mem_of_getElem? (i := 786) (by decide +kernel), List.mem_of_getElem? (i := 787) (by decide +kernel)⟩
theorem lw_p34 : lw_okq (⟨"SchoolOnRaftModel", "spell", "(IIIIIIIII)V"⟩, 49) := ⟨⟨by decide +kernel, by decide +kernel⟩, List.mem_of_getElem? (i := 856) (by decide +kernel), List.mem_of_getElem? (i := 862) (by decide +kernel), List.mem_of_getElem? (i := 863) (by decide +kernel)⟩
theorem lw_p35 : lw_okq (⟨"SchoolOnRaftModel", "isLesson", "(I)Z"⟩, 49) := ⟨⟨by decide +kernel, by decide +kernel⟩, List.mem_of_getElem? (i := 856) (by decide +kernel), List.mem_of_getElem? (i := 1034) (by decide +kernel), List.mem_of_getElem? (i := 1035) (by decide +kernel)⟩
theorem lw_p36 : lw_okq (⟨"SchoolOnRaftModel", "isChild", "(I)Z"⟩, 49) := ⟨⟨by decide +kernel, by decide +kernel⟩, List.mem_of_getElem? (i := 856) (by decide +kernel), List.mem_of_getElem? (i := 1038) (by decide +kernel), List.mem_of_getElem? (i := 1039) (by decide +kernel)⟩
theorem lw_p37 : lw_okq (⟨"SchoolOnRaftModel", "times", "(I)I"⟩, 49) := ⟨⟨by decide +kernel, by decide +kernel⟩, List.mem_of_getElem? (i := 856) (by decide +kernel), List.mem_of_getElem? (i := 1047) (by decide +kernel), List.mem_of_getElem? (i := 1048) (by decide +kernel)⟩
theorem lw_p38 : lw_okq (⟨"SchoolOnRaftModel", "pointsOf", "(I)I"⟩, 49) := ⟨⟨by decide +kernel, by decide +kernel⟩, List.mem_of_getElem? (i := 856) (by decide +kernel), List.mem_of_getElem? (i := 1051) (by decide +kernel), List.mem_of_getElem? (i := 1052) (by decide +kernel)⟩
theorem lw_p39 : lw_okq (⟨"SchoolOnRaftModel", "read", "(II)I"⟩, 49) := ⟨⟨by decide +kernel, by decide +kernel⟩, List.mem_of_getElem? (i := 856) (by decide +kernel), List.mem_of_getElem? (i := 1072) (by decide +kernel), List.mem_of_getElem? (i := 1073) (by decide +kernel)⟩
theorem lw_p40 : lw_okq (⟨"SchoolOnRaftModel", "next", "()V"⟩, 49) := ⟨⟨by decide +kernel, by decide +kernel⟩, List.mem_of_getElem? (i := 856) (by decide +kernel), List.mem_of_getElem? (i := 1076) (by decide +kernel), List.mem_of_getElem? (i := 1077) (by decide +kernel)⟩
theorem lw_p41 : lw_okq (⟨"SchoolOnRaftModel", "byteAt", "(I)I"⟩, 49) := ⟨⟨by decide +kernel, by decide +kernel⟩, List.mem_of_getElem? (i := 856) (by decide +kernel), List.mem_of_getElem? (i := 1080) (by decide +kernel), List.mem_of_getElem? (i := 1081) (by decide +kernel)⟩
theorem lw_p42 : lw_okq (⟨"SchoolOnRaftModel", "isWord", "(IIIIIIII)Z"⟩, 49) := ⟨⟨by decide +kernel, by decide +kernel⟩, List.mem_of_getElem? (i := 856) (by decide +kernel), List.mem_of_getElem? (i := 1089) (by decide +kernel), List.mem_of_getElem? (i := 1090) (by decide +kernel)⟩
theorem lw_p43 : lw_okq (⟨"SchoolOnRaftModel", "isLetter", "(II)Z"⟩, 49) := ⟨⟨by decide +kernel, by decide +kernel⟩, List.mem_of_getElem? (i := 856) (by decide +kernel), List.mem_of_getElem? (i := 1093) (by decide +kernel), List.mem_of_getElem? (i := 1094) (by decide +kernel)⟩
theorem lw_p44 : lw_okq (⟨"SchoolOnRaftModel", "part", "(Z)I"⟩, 49) := ⟨⟨by decide +kernel, by decide +kernel⟩, List.mem_of_getElem? (i := 856) (by decide +kernel), List.mem_of_getElem? (i := 1097) (by decide +kernel), List.mem_of_getElem? (i := 1098) (by decide +kernel)⟩
theorem lw_p45 : lw_okq (⟨"SchoolOnRaftModel", "fail", "()V"⟩, 49) := ⟨⟨by decide +kernel, by decide +kernel⟩, List.mem_of_getElem? (i := 856) (by decide +kernel), List.mem_of_getElem? (i := 1101) (by decide +kernel), List.mem_of_getElem? (i := 1102) (by decide +kernel)⟩
theorem lw_p46 : lw_okq (⟨"SchoolOnRaftModel", "either", "()I"⟩, 49) := ⟨⟨by decide +kernel, by decide +kernel⟩, List.mem_of_getElem? (i := 856) (by decide +kernel), List.mem_of_getElem? (i := 1105) (by decide +kernel), List.mem_of_getElem? (i := 1106) (by decide +kernel)⟩
theorem lw_p47 : lw_okq (⟨"SchoolOnRaftModel", "both", "()I"⟩, 49) := ⟨⟨by decide +kernel, by decide +kernel⟩, List.mem_of_getElem? (i := 856) (by decide +kernel), List.mem_of_getElem? (i := 1109) (by decide +kernel), List.mem_of_getElem? (i := 1110) (by decide +kernel)⟩
def lw_privs_3 : List (MethodName × Nat) := [(⟨"SchoolOnRaft", "whoHave", "(I[I)I"⟩, 10), (⟨"SchoolOnRaft", "draw", "(II)V"⟩, 10), (⟨"SchoolOnRaftModel", "spell", "(IIIIIIIII)V"⟩, 49), (⟨"SchoolOnRaftModel", "isLesson", "(I)Z"⟩, 49), (⟨"SchoolOnRaftModel", "isChild", "(I)Z"⟩, 49), (⟨"SchoolOnRaftModel", "times", "(I)I"⟩, 49), (⟨"SchoolOnRaftModel", "pointsOf", "(I)I"⟩, 49), (⟨"SchoolOnRaftModel", "read", "(II)I"⟩, 49), (⟨"SchoolOnRaftModel", "next", "()V"⟩, 49), (⟨"SchoolOnRaftModel", "byteAt", "(I)I"⟩, 49), (⟨"SchoolOnRaftModel", "isWord", "(IIIIIIII)Z"⟩, 49), (⟨"SchoolOnRaftModel", "isLetter", "(II)Z"⟩, 49), (⟨"SchoolOnRaftModel", "part", "(Z)I"⟩, 49), (⟨"SchoolOnRaftModel", "fail", "()V"⟩, 49), (⟨"SchoolOnRaftModel", "either", "()I"⟩, 49), (⟨"SchoolOnRaftModel", "both", "()I"⟩, 49)]
theorem lw_r3 : ∀ q ∈ lw_privs_3, lw_okq q := List.forall_mem_cons.mpr ⟨lw_p32, List.forall_mem_cons.mpr ⟨lw_p33, List.forall_mem_cons.mpr ⟨lw_p34, List.forall_mem_cons.mpr ⟨lw_p35, List.forall_mem_cons.mpr ⟨lw_p36, List.forall_mem_cons.mpr ⟨lw_p37, List.forall_mem_cons.mpr ⟨lw_p38, List.forall_mem_cons.mpr ⟨lw_p39, List.forall_mem_cons.mpr ⟨lw_p40, List.forall_mem_cons.mpr ⟨lw_p41, List.forall_mem_cons.mpr ⟨lw_p42, List.forall_mem_cons.mpr ⟨lw_p43, List.forall_mem_cons.mpr ⟨lw_p44, List.forall_mem_cons.mpr ⟨lw_p45, List.forall_mem_cons.mpr ⟨lw_p46, List.forall_mem_cons.mpr ⟨lw_p47, fun _ h => absurd h List.not_mem_nil⟩⟩⟩⟩⟩⟩⟩⟩⟩⟩⟩⟩⟩⟩⟩⟩
theorem lw_p48 : lw_okq (⟨"SchoolOnRaftModel", "not", "()I"⟩, 49) := ⟨⟨by decide +kernel, by decide +kernel⟩, List.mem_of_getElem? (i := 856) (by decide +kernel), List.mem_of_getElem? (i := 1113) (by decide +kernel), List.mem_of_getElem? (i := 1114) (by decide +kernel)⟩
theorem lw_p49 : lw_okq (⟨"SchoolOnRaftModel", "opens", "()Z"⟩, 49) := ⟨⟨by decide +kernel, by decide +kernel⟩, List.mem_of_getElem? (i := 856) (by decide +kernel), List.mem_of_getElem? (i := 1117) (by decide +kernel), List.mem_of_getElem? (i := 1118) (by decide +kernel)⟩
theorem lw_p50 : lw_okq (⟨"SchoolOnRaftModel", "added", "()I"⟩, 49) := ⟨⟨by decide +kernel, by decide +kernel⟩, List.mem_of_getElem? (i := 856) (by decide +kernel), List.mem_of_getElem? (i := 1121) (by decide +kernel), List.mem_of_getElem? (i := 1122) (by decide +kernel)⟩
theorem lw_p51 : lw_okq (⟨"SchoolOnRaftModel", "term", "()I"⟩, 49) := ⟨⟨by decide +kernel, by decide +kernel⟩, List.mem_of_getElem? (i := 856) (by decide +kernel), List.mem_of_getElem? (i := 1125) (by decide +kernel), List.mem_of_getElem? (i := 1126) (by decide +kernel)⟩
theorem lw_p52 : lw_okq (⟨"SchoolOnRaftModel", "atom", "()I"⟩, 49) := ⟨⟨by decide +kernel, by decide +kernel⟩, List.mem_of_getElem? (i := 856) (by decide +kernel), List.mem_of_getElem? (i := 1129) (by decide +kernel), List.mem_of_getElem? (i := 1130) (by decide +kernel)⟩
theorem lw_p53 : lw_okq (⟨"SchoolOnRaftModel", "isSign", "(I)Z"⟩, 49) := ⟨⟨by decide +kernel, by decide +kernel⟩, List.mem_of_getElem? (i := 856) (by decide +kernel), List.mem_of_getElem? (i := 1133) (by decide +kernel), List.mem_of_getElem? (i := 1134) (by decide +kernel)⟩
theorem lw_p54 : lw_okq (⟨"SchoolOnRaftModel", "name", "()I"⟩, 49) := ⟨⟨by decide +kernel, by decide +kernel⟩, List.mem_of_getElem? (i := 856) (by decide +kernel), List.mem_of_getElem? (i := 1137) (by decide +kernel), List.mem_of_getElem? (i := 1138) (by decide +kernel)⟩
theorem lw_p55 : lw_okq (⟨"SchoolOnRaftModel", "forgets", "()V"⟩, 49) := ⟨⟨by decide +kernel, by decide +kernel⟩, List.mem_of_getElem? (i := 856) (by decide +kernel), List.mem_of_getElem? (i := 1151) (by decide +kernel), List.mem_of_getElem? (i := 1152) (by decide +kernel)⟩
theorem lw_p56 : lw_okq (⟨"SchoolOnRaftModel", "takesPlan", "()V"⟩, 49) := ⟨⟨by decide +kernel, by decide +kernel⟩, List.mem_of_getElem? (i := 856) (by decide +kernel), List.mem_of_getElem? (i := 1155) (by decide +kernel), List.mem_of_getElem? (i := 1156) (by decide +kernel)⟩
theorem lw_p57 : lw_okq (⟨"SchoolOnRaftModel", "spring", "(III)V"⟩, 49) := ⟨⟨by decide +kernel, by decide +kernel⟩, List.mem_of_getElem? (i := 856) (by decide +kernel), List.mem_of_getElem? (i := 1159) (by decide +kernel), List.mem_of_getElem? (i := 1160) (by decide +kernel)⟩
theorem lw_p58 : lw_okq (⟨"SchoolOnRaftModel", "begins", "()V"⟩, 49) := ⟨⟨by decide +kernel, by decide +kernel⟩, List.mem_of_getElem? (i := 856) (by decide +kernel), List.mem_of_getElem? (i := 1163) (by decide +kernel), List.mem_of_getElem? (i := 1164) (by decide +kernel)⟩
theorem lw_p59 : lw_okq (⟨"SchoolOnRaftModel", "passes", "(IIIZ)V"⟩, 49) := ⟨⟨by decide +kernel, by decide +kernel⟩, List.mem_of_getElem? (i := 856) (by decide +kernel), List.mem_of_getElem? (i := 1167) (by decide +kernel), List.mem_of_getElem? (i := 1168) (by decide +kernel)⟩
theorem lw_p60 : lw_okq (⟨"SchoolOnRaftModel", "hasBy", "(II)I"⟩, 49) := ⟨⟨by decide +kernel, by decide +kernel⟩, List.mem_of_getElem? (i := 856) (by decide +kernel), List.mem_of_getElem? (i := 1171) (by decide +kernel), List.mem_of_getElem? (i := 1172) (by decide +kernel)⟩
theorem lw_p61 : lw_okq (⟨"SchoolOnRaftModel", "keeps", "(II)Z"⟩, 49) := ⟨⟨by decide +kernel, by decide +kernel⟩, List.mem_of_getElem? (i := 856) (by decide +kernel), List.mem_of_getElem? (i := 1175) (by decide +kernel), List.mem_of_getElem? (i := 1176) (by decide +kernel)⟩
theorem lw_p62 : lw_okq (⟨"SchoolOnRaftModel", "hears", "(IIIII)Z"⟩, 49) := ⟨⟨by decide +kernel, by decide +kernel⟩, List.mem_of_getElem? (i := 856) (by decide +kernel), List.mem_of_getElem? (i := 1182) (by decide +kernel), List.mem_of_getElem? (i := 1183) (by decide +kernel)⟩
theorem lw_p63 : lw_okq (⟨"SchoolOnRaftModel", "says", "(IIIIII)I"⟩, 49) := ⟨⟨by decide +kernel, by decide +kernel⟩, List.mem_of_getElem? (i := 856) (by decide +kernel), List.mem_of_getElem? (i := 1186) (by decide +kernel), List.mem_of_getElem? (i := 1187) (by decide +kernel)⟩
def lw_privs_4 : List (MethodName × Nat) := [(⟨"SchoolOnRaftModel", "not", "()I"⟩, 49), (⟨"SchoolOnRaftModel", "opens", "()Z"⟩, 49), (⟨"SchoolOnRaftModel", "added", "()I"⟩, 49), (⟨"SchoolOnRaftModel", "term", "()I"⟩, 49), (⟨"SchoolOnRaftModel", "atom", "()I"⟩, 49), (⟨"SchoolOnRaftModel", "isSign", "(I)Z"⟩, 49), (⟨"SchoolOnRaftModel", "name", "()I"⟩, 49), (⟨"SchoolOnRaftModel", "forgets", "()V"⟩, 49), (⟨"SchoolOnRaftModel", "takesPlan", "()V"⟩, 49), (⟨"SchoolOnRaftModel", "spring", "(III)V"⟩, 49), (⟨"SchoolOnRaftModel", "begins", "()V"⟩, 49), (⟨"SchoolOnRaftModel", "passes", "(IIIZ)V"⟩, 49), (⟨"SchoolOnRaftModel", "hasBy", "(II)I"⟩, 49), (⟨"SchoolOnRaftModel", "keeps", "(II)Z"⟩, 49), (⟨"SchoolOnRaftModel", "hears", "(IIIII)Z"⟩, 49), (⟨"SchoolOnRaftModel", "says", "(IIIIII)I"⟩, 49)]
theorem lw_r4 : ∀ q ∈ lw_privs_4, lw_okq q := List.forall_mem_cons.mpr ⟨lw_p48, List.forall_mem_cons.mpr ⟨lw_p49, List.forall_mem_cons.mpr ⟨lw_p50, List.forall_mem_cons.mpr ⟨lw_p51, List.forall_mem_cons.mpr ⟨lw_p52, List.forall_mem_cons.mpr ⟨lw_p53, List.forall_mem_cons.mpr ⟨lw_p54, List.forall_mem_cons.mpr ⟨lw_p55, List.forall_mem_cons.mpr ⟨lw_p56, List.forall_mem_cons.mpr ⟨lw_p57, List.forall_mem_cons.mpr ⟨lw_p58, List.forall_mem_cons.mpr ⟨lw_p59, List.forall_mem_cons.mpr ⟨lw_p60, List.forall_mem_cons.mpr ⟨lw_p61, List.forall_mem_cons.mpr ⟨lw_p62, List.forall_mem_cons.mpr ⟨lw_p63, fun _ h => absurd h List.not_mem_nil⟩⟩⟩⟩⟩⟩⟩⟩⟩⟩⟩⟩⟩⟩⟩⟩
theorem lw_p64 : lw_okq (⟨"SchoolOnRaftModel", "allPoints", "()I"⟩, 49) := ⟨⟨by decide +kernel, by decide +kernel⟩, List.mem_of_getElem? (i := 856) (by decide +kernel), List.mem_of_getElem? (i := 1198) (by decide +kernel), List.mem_of_getElem? (i := 1199) (by decide +kernel)⟩
theorem lw_p65 : lw_okq (⟨"SchoolOnRaftModel", "pointsBy", "(I)I"⟩, 49) := ⟨⟨by decide +kernel, by decide +kernel⟩, List.mem_of_getElem? (i := 856) (by decide +kernel), List.mem_of_getElem? (i := 1202) (by decide +kernel), List.mem_of_getElem? (i := 1203) (by decide +kernel)⟩
theorem lw_p66 : lw_okq (⟨"SchoolOnRaftModel", "endPoints", "(I)I"⟩, 49) := ⟨⟨by decide +kernel, by decide +kernel⟩, List.mem_of_getElem? (i := 856) (by decide +kernel), List.mem_of_getElem? (i := 1206) (by decide +kernel), List.mem_of_getElem? (i := 1207) (by decide +kernel)⟩
theorem lw_p67 : lw_okq (⟨"SchoolOnRaftModel", "worth", "(IIII)I"⟩, 49) := ⟨⟨by decide +kernel, by decide +kernel⟩, List.mem_of_getElem? (i := 856) (by decide +kernel), List.mem_of_getElem? (i := 1210) (by decide +kernel), List.mem_of_getElem? (i := 1211) (by decide +kernel)⟩
theorem lw_p68 : lw_okq (⟨"SchoolOnRaftModel", "seeks", "()V"⟩, 49) := ⟨⟨by decide +kernel, by decide +kernel⟩, List.mem_of_getElem? (i := 856) (by decide +kernel), List.mem_of_getElem? (i := 1222) (by decide +kernel), List.mem_of_getElem? (i := 1223) (by decide +kernel)⟩
theorem lw_p69 : lw_okq (⟨"SchoolOnRaftModel", "adds", "(III)V"⟩, 49) := ⟨⟨by decide +kernel, by decide +kernel⟩, List.mem_of_getElem? (i := 856) (by decide +kernel), List.mem_of_getElem? (i := 1226) (by decide +kernel), List.mem_of_getElem? (i := 1227) (by decide +kernel)⟩
theorem lw_p70 : lw_okq (⟨"SchoolOnRaftModel", "changeAt", "(II)I"⟩, 49) := ⟨⟨by decide +kernel, by decide +kernel⟩, List.mem_of_getElem? (i := 856) (by decide +kernel), List.mem_of_getElem? (i := 1247) (by decide +kernel), List.mem_of_getElem? (i := 1248) (by decide +kernel)⟩
theorem lw_p71 : lw_okq (⟨"SchoolOnRaftModel", "examBad", "(II)I"⟩, 49) := ⟨⟨by decide +kernel, by decide +kernel⟩, List.mem_of_getElem? (i := 856) (by decide +kernel), List.mem_of_getElem? (i := 1255) (by decide +kernel), List.mem_of_getElem? (i := 1256) (by decide +kernel)⟩
theorem lw_p72 : lw_okq (⟨"SchoolOnRaftModel", "unlike", "(I)I"⟩, 49) := ⟨⟨by decide +kernel, by decide +kernel⟩, List.mem_of_getElem? (i := 856) (by decide +kernel), List.mem_of_getElem? (i := 1263) (by decide +kernel), List.mem_of_getElem? (i := 1264) (by decide +kernel)⟩
theorem lw_p73 : lw_okq (⟨"SchoolOnRaftModel", "allHave", "()I"⟩, 49) := ⟨⟨by decide +kernel, by decide +kernel⟩, List.mem_of_getElem? (i := 856) (by decide +kernel), List.mem_of_getElem? (i := 1275) (by decide +kernel), List.mem_of_getElem? (i := 1276) (by decide +kernel)⟩
theorem lw_p74 : lw_okq (⟨"SchoolOnRaftModel", "floods", "(II)V"⟩, 49) := ⟨⟨by decide +kernel, by decide +kernel⟩, List.mem_of_getElem? (i := 856) (by decide +kernel), List.mem_of_getElem? (i := 1287) (by decide +kernel), List.mem_of_getElem? (i := 1288) (by decide +kernel)⟩
def lw_privs_5 : List (MethodName × Nat) := [(⟨"SchoolOnRaftModel", "allPoints", "()I"⟩, 49), (⟨"SchoolOnRaftModel", "pointsBy", "(I)I"⟩, 49), (⟨"SchoolOnRaftModel", "endPoints", "(I)I"⟩, 49), (⟨"SchoolOnRaftModel", "worth", "(IIII)I"⟩, 49), (⟨"SchoolOnRaftModel", "seeks", "()V"⟩, 49), (⟨"SchoolOnRaftModel", "adds", "(III)V"⟩, 49), (⟨"SchoolOnRaftModel", "changeAt", "(II)I"⟩, 49), (⟨"SchoolOnRaftModel", "examBad", "(II)I"⟩, 49), (⟨"SchoolOnRaftModel", "unlike", "(I)I"⟩, 49), (⟨"SchoolOnRaftModel", "allHave", "()I"⟩, 49), (⟨"SchoolOnRaftModel", "floods", "(II)V"⟩, 49)]
theorem lw_r5 : ∀ q ∈ lw_privs_5, lw_okq q := List.forall_mem_cons.mpr ⟨lw_p64, List.forall_mem_cons.mpr ⟨lw_p65, List.forall_mem_cons.mpr ⟨lw_p66, List.forall_mem_cons.mpr ⟨lw_p67, List.forall_mem_cons.mpr ⟨lw_p68, List.forall_mem_cons.mpr ⟨lw_p69, List.forall_mem_cons.mpr ⟨lw_p70, List.forall_mem_cons.mpr ⟨lw_p71, List.forall_mem_cons.mpr ⟨lw_p72, List.forall_mem_cons.mpr ⟨lw_p73, List.forall_mem_cons.mpr ⟨lw_p74, fun _ h => absurd h List.not_mem_nil⟩⟩⟩⟩⟩⟩⟩⟩⟩⟩⟩
def lw_privs : List (MethodName × Nat) := lw_privs_1 ++ (lw_privs_2 ++ (lw_privs_3 ++ (lw_privs_4 ++ (lw_privs_5))))
def lw_tbl : List Cond := k2_sels lw_privs ++ tables_1
theorem lw_privs_ok : ∀ q ∈ lw_privs, lw_okq q := by
  show ∀ q ∈ lw_privs_1 ++ (lw_privs_2 ++ (lw_privs_3 ++ (lw_privs_4 ++ (lw_privs_5)))), lw_okq q
  exact List.forall_mem_append.mpr ⟨lw_r1, List.forall_mem_append.mpr ⟨lw_r2, List.forall_mem_append.mpr ⟨lw_r3, List.forall_mem_append.mpr ⟨lw_r4, lw_r5⟩⟩⟩⟩
-- ===== end of PART A; then your names; then what follows =====
end
section
/-! ===== BEGIN words of one list among another's, by their places ===== -/
theorem goodIn_r {big : List Cond} (ws : List Cond) (ps : List Nat) (hp : ws = ps.filterMap (fun i => big[i]?)) (h : ws.all goodWord = true) : GoodIn big ws := by
  intro w hw
  have h1 := List.all_eq_true.mp h w hw
  rw [hp] at hw
  obtain ⟨i, -, hi⟩ := List.mem_filterMap.mp hw
  have hm : w ∈ big := by first | exact List.mem_of_getElem? hi | exact List.getElem?_mem hi
  exact ⟨hm, good_of_word h1⟩
theorem goodIn_app {big a b : List Cond} (ha : GoodIn big a) (hb : GoodIn big b) : GoodIn big (a ++ b) := fun w h => (List.mem_append.mp h).elim (ha w) (hb w)
theorem goodIn_ca {big a b : List Cond} {c : Cond} (ha : GoodIn big (c :: a)) (hb : GoodIn big b) : GoodIn big (c :: (a ++ b)) := fun w h => (List.mem_cons.mp h).elim (fun e => ha w (List.mem_cons.mpr (Or.inl e))) (fun h => (List.mem_append.mp h).elim (fun h => ha w (List.mem_cons.mpr (Or.inr h))) (hb w))
theorem goodIn_sub {big ws : List Cond} (hm : ∀ w ∈ ws, w ∈ big) (h : ws.all goodWord = true) : GoodIn big ws := fun w hw => ⟨hm w hw, good_of_word (List.all_eq_true.mp h w hw)⟩
/-! ===== END ===== -/

/-- an array class over another array class, as the tables say it -/
def va_AOA (t : FieldType) (U : State) : Prop := (Cond.arrayOver (.array t)).before #[] U = true
theorem va_AOA.use {t : FieldType} {A : Array Value} {U : State} (h : va_AOA t U) : (Cond.arrayOver (.array t)).before A U = true := h
/-! ===== BEGIN new T[n][m]: the outer array a place, the inner ones among the pooled ===== -/
/-- f, but v at every address of l -/
def vr_up {α : Type} (f : Nat → α) (l : List Nat) (v : α) : Nat → α := fun a => if a ∈ l then v else f a
theorem vr_up_in {α : Type} {f : Nat → α} {l : List Nat} {v : α} {a : Nat} (h : a ∈ l) : vr_up f l v a = v := if_pos h
theorem vr_up_ne {α : Type} {f : Nat → α} {l : List Nat} {v : α} {a : Nat} (h : a ∉ l) : vr_up f l v a = f a := if_neg h
theorem vr_rows {L l : List Nat} {f : Nat → va_E} {e : va_E} (h : ∀ a, a ∈ l → a ∉ L) : va_pl L f ++ l.map (fun a => (a, e)) = va_pl (L ++ l) (vr_up f l e) := by
  unfold va_pl
  rw [List.map_append]
  congr 1
  · apply List.map_congr_left
    intro a ha
    rw [vr_up_ne (fun q => h a q ha)]
  · apply List.map_congr_left
    intro a ha
    rw [vr_up_in ha]
theorem vr_lay {X rows : va_W} {x : Nat × va_E} {pl : va_W} {D : va_G} {cl : List vw_C} {H : Heap} (hP : va_P D cl (((X ++ pl) ++ [x]) ++ rows) H) : va_P D cl ((X ++ [x]) ++ (pl ++ rows)) H := by
  rw [List.append_assoc (X ++ pl)] at hP
  have h := va_P.swap hP
  rw [← List.append_assoc X] at h
  have h2 := va_P.swap h
  rw [List.append_assoc (X ++ [x])] at h2
  exact h2
theorem vr_layD {X rows : va_W} {x : Nat × va_E} {pl : va_W} {A : Nat → Prop} (hD : va_D A (((X ++ pl) ++ [x]) ++ rows)) : va_D A ((X ++ [x]) ++ (pl ++ rows)) := by
  rw [List.append_assoc (X ++ pl)] at hD
  have h := va_D.swap hD
  rw [← List.append_assoc X] at h
  have h2 := va_D.swap h
  rw [List.append_assoc (X ++ [x])] at h2
  exact h2
theorem vr_outer (c : ClassId) (N h0 : Nat) : ∀ i : Nat, Jvm.Free.Multi.outerC c N h0 i = arrV c N (fun j => va_rf (if j < i then some (h0 + 1 + j) else none))
  | 0 => by
    show ({ cls := c, slots := Array.replicate N .null, vm := .none } : Cell) = _
    rw [arrV_new]
    refine congrArg (arrV c N) (funext fun j => ?_)
    simp [va_rf]
  | i + 1 => by
    show (Jvm.Free.Multi.outerC c N h0 i).setSlot i (.ref (h0 + 1 + i)) = _
    rw [vr_outer c N h0 i, arrV_store]
    refine congrArg (arrV c N) (funext fun j => ?_)
    by_cases e : j = i
    · subst e
      simp [updV, va_rf]
    · by_cases h : j < i
      · simp [updV, e, h, Nat.lt_succ_of_lt h]
      · simp [updV, e, h, show ¬ j < i + 1 by omega]
section VGM
variable {p : Program} {l : Launch} {e : Env} {R : Room} {s : State} {m : MethodId} {args : Array Value} {below : List Frame} {meth : Method} {c : Code} {H : Heap} {locs : List Loc} {cells slots : Nat} {Q : State → Prop}
variable {cc : ByteArray} {pc : Nat} {ls : Array Slot} {rest : List Value} {D : va_G} {cl : List vw_C} {A : Nat → Prop} {a : Nat} {tys : List (ClassId × FieldType)} {ws : va_W} {H0 : Heap}
theorem va_mna {X : va_W} {L : List Nat} {f : Nat → va_E} {cc : ByteArray} (hexec : p.tables.exec = Jvm.exec) (hb : c.code = cc) {own : String} {index : Nat} {ty : FieldType} {cy : ClassId} (hown : s.vm.findClass own = some m.cls) (hclink : (Cond.classLink own index ("[" ++ (FieldType.array ty).toString)).before args s = true) (hover : va_AOA ty s) (harr : (Cond.arrayClass ty).before args s = true) (hcy : s.vm.findClass (FieldType.array ty).toString = some cy)
    (hK : va_K D cl tys s) (hP : va_P D cl (X ++ va_pl L f) H) (hD : va_D A (X ++ va_pl L f)) (hS : va_S A H0 H locs) (hA : ∀ q, H0.size ≤ q → A q) {n k : Int32} {N' K' : Nat} {z : vp_A} (hn : ¬ n < 0) (hk : ¬ k < 0) (hN : n.toNatClampNeg = N') (hM : k.toNatClampNeg = K')
    (hb1 : N' * 4 ≤ 536870912) (hb2 : K' * componentBytes ty ≤ 536870912) (hb3 : K' ≤ 536870912) (hdf : fits ty (defaultValue ty) = true) (hdd : (defaultValue ty).isDefault = true) (hcells : cells + (1 + N') ≤ R.cells) (hslots : slots + (N' + N' * K') ≤ R.slots) (hz : ∀ c : ClassId, Jvm.Free.Multi.innerC c K' (defaultValue ty) = vp_cell c z) (hdg : decode cc pc = .ok (.multianewarray index 2, 4))
    (kk : ∀ (q : Nat) (r : Nat → Nat) (cA : ClassId) (H1 : Heap), (∀ i j : Nat, i < N' → j < N' → r i = r j → i = j) → (∀ i : Nat, i < N' → r i ∉ L) → va_K D cl (tys ++ [(cA, .array ty)]) s →
      va_P D cl ((X ++ [(q, .inl (cA, N', .inr (.inr (.inr (.inr (fun i => if i < N' then some (r i) else none))))))]) ++ va_pl (L ++ (List.range N').map r) (vr_up f ((List.range N').map r) (.inl (cy, z)))) H1 → va_D A ((X ++ [(q, .inl (cA, N', .inr (.inr (.inr (.inr (fun i => if i < N' then some (r i) else none))))))]) ++ va_pl (L ++ (List.range N').map r) (vr_up f ((List.range N').map r) (.inl (cy, z)))) → va_S A H0 H1 locs →
      W p l e R s m args below meth c H1 locs (cells + 1 + N') (slots + N' + N' * K') Q (F0 m (pc + 4) ls (.ref q :: rest))) : W p l e R s m args below meth c H locs cells slots Q (F0 m pc ls (.int k :: .int n :: rest)) := by
  subst hN
  subst hM
  intro T hT Xs
  obtain ⟨vm₁, cA, comp, -, fA, fC, hO, -, X', step⟩ := Xs.multianewarray2F hexec hown hclink (va_AOA.use hover) harr (g := F0 m pc ls (.int k :: .int n :: rest)) rfl (by rw [hb]; exact hdg) rfl hn hk hb1 hb2 hb3 hdf hdd hcells hslots
  have ec : some cy = some comp := hcy.symm.trans fC
  cases ec
  generalize hF : Jvm.Free.Multi.fill (T.setVm vm₁) cA cy n.toNatClampNeg k.toNatClampNeg (defaultValue ty) n.toNatClampNeg = F at X' step
  have hTh : (T.setVm vm₁).heap = H := hT
  obtain ⟨f1, f2, -, -⟩ := Jvm.Free.Multi.fill_facts (T.setVm vm₁) cA cy n.toNatClampNeg k.toNatClampNeg (defaultValue ty) n.toNatClampNeg
  rw [hF, hTh] at f1 f2
  have hold : ∀ x : Nat, x < H.size → F.heap[x]? = H[x]? := fun x hx => by
    have := Jvm.Free.Multi.fill_old (T.setVm vm₁) cA cy n.toNatClampNeg k.toNatClampNeg (defaultValue ty) (a := x) (by rw [hTh]; exact hx) n.toNatClampNeg
    rw [hF, hTh] at this
    exact this
  have hrow : ∀ j : Nat, j < n.toNatClampNeg → F.heap[H.size + 1 + j]? = some (vp_cell cy z) := fun j hj => by
    have := Jvm.Free.Multi.fill_inner (T.setVm vm₁) cA cy n.toNatClampNeg k.toNatClampNeg (defaultValue ty) n.toNatClampNeg j hj
    rw [hF, hTh, hz] at this
    exact this
  have hout : Jvm.Free.Multi.outerC cA n.toNatClampNeg H.size n.toNatClampNeg = vp_cell cA (n.toNatClampNeg, .inr (.inr (.inr (.inr (fun i => if i < n.toNatClampNeg then some (H.size + 1 + i) else none))))) := by
    rw [vp_cell_q]
    exact vr_outer cA n.toNatClampNeg H.size n.toNatClampNeg
  rw [hout] at f2
  have hlt : ∀ a, a ∈ L → a < H.size := fun a ha => by
    obtain ⟨k9, hk9⟩ := va_pl_get (X := X) (f := f) ha
    exact (hP k9 _ hk9).lt
  have hnl : ∀ i : Nat, i < n.toNatClampNeg → H.size + 1 + i ∉ L := fun i _ h => by
    have := hlt _ h
    omega
  have hnm : ∀ a, a ∈ (List.range n.toNatClampNeg).map (fun i => H.size + 1 + i) → a ∉ L := fun a ha h => by
    obtain ⟨i, -, rfl⟩ := List.mem_map.mp ha
    have := hlt _ h
    omega
  have hP0 : va_P D cl (X ++ va_pl L f) F.heap := hP.kept (fun k9 x hx => hold x.1 ((hP k9 x hx).lt))
  have hP1 : va_P D cl ((X ++ va_pl L f) ++ [(H.size, .inl (cA, n.toNatClampNeg, .inr (.inr (.inr (.inr (fun i => if i < n.toNatClampNeg then some (H.size + 1 + i) else none))))))]) F.heap := hP0.app (fun k9 x hx => by
    have h0 : k9 < 1 := (List.getElem?_eq_some_iff.mp hx).1
    rw [show k9 = 0 by omega] at hx
    cases hx
    exact f2)
  have hP2 : va_P D cl (((X ++ va_pl L f) ++ [(H.size, .inl (cA, n.toNatClampNeg, .inr (.inr (.inr (.inr (fun i => if i < n.toNatClampNeg then some (H.size + 1 + i) else none))))))]) ++ ((List.range n.toNatClampNeg).map (fun i => H.size + 1 + i)).map (fun a => (a, .inl (cy, z)))) F.heap := hP1.app (fun k9 x hx => by
    obtain ⟨a, ha, rfl⟩ := List.mem_map.mp (List.mem_of_getElem? hx)
    obtain ⟨i, hi, rfl⟩ := List.mem_map.mp ha
    exact hrow i (List.mem_range.mp hi))
  have hD2 : va_D A (((X ++ va_pl L f) ++ [(H.size, .inl (cA, n.toNatClampNeg, .inr (.inr (.inr (.inr (fun i => if i < n.toNatClampNeg then some (H.size + 1 + i) else none))))))]) ++ ((List.range n.toNatClampNeg).map (fun i => H.size + 1 + i)).map (fun a => (a, .inl (cy, z)))) := by
    have hD1 := hD.push (e := .inl (cA, n.toNatClampNeg, .inr (.inr (.inr (.inr (fun i => if i < n.toNatClampNeg then some (H.size + 1 + i) else none)))))) hP rfl (hA _ hS.1)
    generalize hW1 : (X ++ va_pl L f) ++ [(H.size, .inl (cA, n.toNatClampNeg, .inr (.inr (.inr (.inr (fun i => if i < n.toNatClampNeg then some (H.size + 1 + i) else none))))))] = W1 at hD1 hP1 ⊢
    have hle : ∀ (k9 : Nat) (x : Nat × va_E), W1[k9]? = some x → x.1 ≤ H.size := fun k9 x hx => by
      rw [← hW1] at hx
      by_cases hl : k9 < (X ++ va_pl L f).length
      · rw [List.getElem?_append_left hl] at hx
        exact Nat.le_of_lt ((hP k9 x hx).lt)
      · rw [List.getElem?_append_right (by omega)] at hx
        have h0 : k9 - (X ++ va_pl L f).length < 1 := (List.getElem?_eq_some_iff.mp hx).1
        rw [show k9 - (X ++ va_pl L f).length = 0 by omega] at hx
        cases hx
        exact Nat.le_refl _
    have hr : ∀ (k9 : Nat) (x : Nat × va_E), (((List.range n.toNatClampNeg).map (fun i => H.size + 1 + i)).map (fun a => ((a, .inl (cy, z)) : Nat × va_E)))[k9]? = some x → x.1 = H.size + 1 + k9 := fun k9 x hx => by
      rw [List.getElem?_map, List.getElem?_map] at hx
      by_cases h9 : k9 < n.toNatClampNeg
      · rw [List.getElem?_range h9] at hx
        cases hx
        rfl
      · have hn0 : (List.range n.toNatClampNeg)[k9]? = none := List.getElem?_eq_none (by rw [List.length_range]; omega)
        rw [hn0] at hx
        cases hx
    refine ⟨fun i j x y hi hj hxy => ?_, fun k9 x hx => ?_⟩
    · by_cases h1 : i < W1.length <;> by_cases h2 : j < W1.length
      · rw [List.getElem?_append_left h1] at hi
        rw [List.getElem?_append_left h2] at hj
        exact hD1.1 i j x y hi hj hxy
      · rw [List.getElem?_append_left h1] at hi
        rw [List.getElem?_append_right (by omega)] at hj
        have := hle _ _ hi
        have := hr _ _ hj
        omega
      · rw [List.getElem?_append_right (by omega)] at hi
        rw [List.getElem?_append_left h2] at hj
        have := hle _ _ hj
        have := hr _ _ hi
        omega
      · rw [List.getElem?_append_right (by omega)] at hi hj
        have := hr _ _ hi
        have := hr _ _ hj
        omega
    · by_cases h1 : k9 < W1.length
      · rw [List.getElem?_append_left h1] at hx
        exact hD1.2 k9 x hx
      · rw [List.getElem?_append_right (by omega)] at hx
        have := hr _ _ hx
        exact hA _ (by have := hS.1; omega)
  have hAr : ArrOfT s cA (.array ty) := fun N9 z9 => by
    obtain ⟨-, k9, hk9, cm9, hkk9⟩ := (hO 0 0 0).1
    exact ⟨(fun q hq => by cases hq), k9, hk9, cm9, hkk9⟩
  have hK2 : va_K D cl (tys ++ [(cA, .array ty)]) s := ⟨hK.1, fun k9 x hx => by
    by_cases hl : k9 < tys.length
    · rw [List.getElem?_append_left hl] at hx
      exact hK.2 k9 x hx
    · rw [List.getElem?_append_right (by omega)] at hx
      have h0 : k9 - tys.length < 1 := (List.getElem?_eq_some_iff.mp hx).1
      rw [show k9 - tys.length = 0 by omega] at hx
      cases hx
      exact ⟨hAr, fA⟩⟩
  obtain ⟨t, a1, b1⟩ := kk H.size (fun i => H.size + 1 + i) cA F.heap (fun i j _ _ h => by have h9 : H.size + 1 + i = H.size + 1 + j := h; omega) hnl hK2 (by rw [← vr_rows hnm]; exact vr_lay hP2) (by rw [← vr_rows hnm]; exact vr_layD hD2) ⟨by rw [f1]; have := hS.1; omega, fun x h1 h2 => (hold x (Nat.lt_of_lt_of_le h1 hS.1)).trans (hS.2.1 x h1 h2), hS.2.2⟩ F rfl X'
  refine ⟨t, step t ?_, b1⟩
  have e : T.heap.size = H.size := by rw [hT]
  rw [e]
  exact a1
end VGM
/-! ===== END ===== -/

/-! ===== BEGIN printed: names, fields, word lists, decode rows ===== -/
def RX0 : String := "SchoolOnRaft$Board"
def TX0 : u_T := fun k => match k with
  | 0 => ("SchoolOnRaft$Board", "lessonCount", "I", false)
  | 1 => ("SchoolOnRaft$Board", "childCount", "I", false)
  | 2 => ("SchoolOnRaft$Board", "rule", "I", false)
  | 3 => ("SchoolOnRaft$Board", "kinds", "[I", true)
  | 4 => ("SchoolOnRaft$Board", "numbers", "[I", true)
  | 5 => ("SchoolOnRaft$Board", "needs", "[I", true)
  | 6 => ("SchoolOnRaft$Board", "ons", "[I", true)
  | 7 => ("SchoolOnRaft$Board", "offs", "[I", true)
  | 8 => ("SchoolOnRaft$Board", "ages", "[I", true)
  | 9 => ("SchoolOnRaft$Board", "plan", "[I", true)
  | _ => ("SchoolOnRaft$Board", "other", "[I", true)
def tyX0 : Nat → FieldType := fun k => match k with
  | 0 => .int
  | 1 => .int
  | 2 => .int
  | 3 => .array .int
  | 4 => .array .int
  | 5 => .array .int
  | 6 => .array .int
  | 7 => .array .int
  | 8 => .array .int
  | 9 => .array .int
  | _ => .array .int
abbrev wsX00 : List Cond := u_ws RX0 TX0 11
theorem nmX0 : ∀ a, a < 11 → ∀ b, b < 11 → a ≠ b → (TX0 a).2.1 ≠ (TX0 b).2.1 := by decide +kernel
theorem tyX0_ok : ∀ k, k < 11 → parseFieldDescriptor (TX0 k).2.2.1 = some (tyX0 k) := by decide +kernel
abbrev cX0_init : ByteArray := prog_2_method_1_code
def yX0_init : MethodName := ⟨RX0, "<init>", "()V"⟩
abbrev cX0_addLesson : ByteArray := prog_2_method_2_code
def yX0_addLesson : MethodName := ⟨RX0, "addLesson", "(III)I"⟩
abbrev cX0_addChild : ByteArray := prog_2_method_3_code
def yX0_addChild : MethodName := ⟨RX0, "addChild", "(III)I"⟩
abbrev cX0_become : ByteArray := prog_2_method_4_code
def yX0_become : MethodName := ⟨RX0, "become", "(LSchoolOnRaft$Board;)V"⟩
def RX1 : String := "SchoolOnRaft$HardKind"
def TX1 : u_T := fun k => match k with
  | _ => ("", "", "", false)
def tyX1 : Nat → FieldType := fun k => match k with
  | _ => .int
abbrev wsX10 : List Cond := u_ws RX1 TX1 0
theorem nmX1 : ∀ a, a < 0 → ∀ b, b < 0 → a ≠ b → (TX1 a).2.1 ≠ (TX1 b).2.1 := by decide +kernel
theorem tyX1_ok : ∀ k, k < 0 → parseFieldDescriptor (TX1 k).2.2.1 = some (tyX1 k) := by decide +kernel
abbrev cX1_init : ByteArray := prog_3_method_1_code
def yX1_init : MethodName := ⟨RX1, "<init>", "()V"⟩
abbrev cX1_times : ByteArray := prog_3_method_2_code
def yX1_times : MethodName := ⟨RX1, "times", "(I)I"⟩
abbrev cX1_keeps : ByteArray := prog_3_method_3_code
def yX1_keeps : MethodName := ⟨RX1, "keeps", "(II)Z"⟩
abbrev cX1_value : ByteArray := prog_3_method_4_code
def yX1_value : MethodName := ⟨RX1, "value", "(I)I"⟩
def RX2 : String := "SchoolOnRaft$Kind"
def TX2 : u_T := fun k => match k with
  | _ => ("", "", "", false)
def tyX2 : Nat → FieldType := fun k => match k with
  | _ => .int
abbrev wsX20 : List Cond := u_ws RX2 TX2 0
theorem nmX2 : ∀ a, a < 0 → ∀ b, b < 0 → a ≠ b → (TX2 a).2.1 ≠ (TX2 b).2.1 := by decide +kernel
theorem tyX2_ok : ∀ k, k < 0 → parseFieldDescriptor (TX2 k).2.2.1 = some (tyX2 k) := by decide +kernel
abbrev cX2_init : ByteArray := prog_4_method_1_code
def yX2_init : MethodName := ⟨RX2, "<init>", "()V"⟩
abbrev cX2_times : ByteArray := prog_4_method_2_code
def yX2_times : MethodName := ⟨RX2, "times", "(I)I"⟩
abbrev cX2_keeps : ByteArray := prog_4_method_3_code
def yX2_keeps : MethodName := ⟨RX2, "keeps", "(II)Z"⟩
abbrev cX2_value : ByteArray := prog_4_method_4_code
def yX2_value : MethodName := ⟨RX2, "value", "(I)I"⟩
def RX3 : String := "SchoolOnRaft$LightKind"
def TX3 : u_T := fun k => match k with
  | _ => ("", "", "", false)
def tyX3 : Nat → FieldType := fun k => match k with
  | _ => .int
abbrev wsX30 : List Cond := u_ws RX3 TX3 0
theorem nmX3 : ∀ a, a < 0 → ∀ b, b < 0 → a ≠ b → (TX3 a).2.1 ≠ (TX3 b).2.1 := by decide +kernel
theorem tyX3_ok : ∀ k, k < 0 → parseFieldDescriptor (TX3 k).2.2.1 = some (tyX3 k) := by decide +kernel
abbrev cX3_init : ByteArray := prog_5_method_1_code
def yX3_init : MethodName := ⟨RX3, "<init>", "()V"⟩
abbrev cX3_keeps : ByteArray := prog_5_method_2_code
def yX3_keeps : MethodName := ⟨RX3, "keeps", "(II)Z"⟩
abbrev cX3_value : ByteArray := prog_5_method_3_code
def yX3_value : MethodName := ⟨RX3, "value", "(I)I"⟩
def RX4 : String := "SchoolOnRaft$LongKind"
def TX4 : u_T := fun k => match k with
  | _ => ("", "", "", false)
def tyX4 : Nat → FieldType := fun k => match k with
  | _ => .int
abbrev wsX40 : List Cond := u_ws RX4 TX4 0
theorem nmX4 : ∀ a, a < 0 → ∀ b, b < 0 → a ≠ b → (TX4 a).2.1 ≠ (TX4 b).2.1 := by decide +kernel
theorem tyX4_ok : ∀ k, k < 0 → parseFieldDescriptor (TX4 k).2.2.1 = some (tyX4 k) := by decide +kernel
abbrev cX4_init : ByteArray := prog_6_method_1_code
def yX4_init : MethodName := ⟨RX4, "<init>", "()V"⟩
abbrev cX4_times : ByteArray := prog_6_method_2_code
def yX4_times : MethodName := ⟨RX4, "times", "(I)I"⟩
abbrev cX4_value : ByteArray := prog_6_method_3_code
def yX4_value : MethodName := ⟨RX4, "value", "(I)I"⟩
def RX5 : String := "SchoolOnRaft$ProofKind"
def TX5 : u_T := fun k => match k with
  | _ => ("", "", "", false)
def tyX5 : Nat → FieldType := fun k => match k with
  | _ => .int
abbrev wsX50 : List Cond := u_ws RX5 TX5 0
theorem nmX5 : ∀ a, a < 0 → ∀ b, b < 0 → a ≠ b → (TX5 a).2.1 ≠ (TX5 b).2.1 := by decide +kernel
theorem tyX5_ok : ∀ k, k < 0 → parseFieldDescriptor (TX5 k).2.2.1 = some (tyX5 k) := by decide +kernel
abbrev cX5_init : ByteArray := prog_7_method_1_code
def yX5_init : MethodName := ⟨RX5, "<init>", "()V"⟩
abbrev cX5_value : ByteArray := prog_7_method_2_code
def yX5_value : MethodName := ⟨RX5, "value", "(I)I"⟩
def RX6 : String := "SchoolOnRaft$Reader"
def TX6 : u_T := fun k => match k with
  | 0 => ("SchoolOnRaft$Reader", "tape", "[I", true)
  | 1 => ("SchoolOnRaft$Reader", "size", "I", false)
  | 2 => ("SchoolOnRaft$Reader", "start", "I", false)
  | 3 => ("SchoolOnRaft$Reader", "place", "I", false)
  | 4 => ("SchoolOnRaft$Reader", "token", "I", false)
  | 5 => ("SchoolOnRaft$Reader", "code", "[I", true)
  | _ => ("SchoolOnRaft$Reader", "used", "I", false)
def tyX6 : Nat → FieldType := fun k => match k with
  | 0 => .array .int
  | 1 => .int
  | 2 => .int
  | 3 => .int
  | 4 => .int
  | 5 => .array .int
  | _ => .int
abbrev wsX60 : List Cond := u_ws RX6 TX6 7
theorem nmX6 : ∀ a, a < 7 → ∀ b, b < 7 → a ≠ b → (TX6 a).2.1 ≠ (TX6 b).2.1 := by decide +kernel
theorem tyX6_ok : ∀ k, k < 7 → parseFieldDescriptor (TX6 k).2.2.1 = some (tyX6 k) := by decide +kernel
abbrev cX6_init : ByteArray := prog_8_method_1_code
def yX6_init : MethodName := ⟨RX6, "<init>", "()V"⟩
abbrev cX6_read : ByteArray := prog_8_method_2_code
def yX6_read : MethodName := ⟨RX6, "read", "()LSchoolOnRaft$Text;"⟩
abbrev cX6_section : ByteArray := prog_8_method_3_code
def yX6_section : MethodName := ⟨RX6, "section", "(I)[I"⟩
abbrev cX6_either : ByteArray := prog_8_method_4_code
def yX6_either : MethodName := ⟨RX6, "either", "(I)Z"⟩
abbrev cX6_both : ByteArray := prog_8_method_5_code
def yX6_both : MethodName := ⟨RX6, "both", "(I)Z"⟩
abbrev cX6_denied : ByteArray := prog_8_method_6_code
def yX6_denied : MethodName := ⟨RX6, "denied", "(I)Z"⟩
abbrev cX6_compared : ByteArray := prog_8_method_7_code
def yX6_compared : MethodName := ⟨RX6, "compared", "(I)Z"⟩
abbrev cX6_sum : ByteArray := prog_8_method_8_code
def yX6_sum : MethodName := ⟨RX6, "sum", "(I)Z"⟩
abbrev cX6_term : ByteArray := prog_8_method_9_code
def yX6_term : MethodName := ⟨RX6, "term", "(I)Z"⟩
abbrev cX6_one : ByteArray := prog_8_method_10_code
def yX6_one : MethodName := ⟨RX6, "one", "(I)Z"⟩
abbrev cX6_write : ByteArray := prog_8_method_11_code
def yX6_write : MethodName := ⟨RX6, "write", "(I)V"⟩
abbrev cX6_advance : ByteArray := prog_8_method_12_code
def yX6_advance : MethodName := ⟨RX6, "advance", "()V"⟩
abbrev cX6_number : ByteArray := prog_8_method_13_code
def yX6_number : MethodName := ⟨RX6, "number", "()I"⟩
abbrev cX6_word : ByteArray := prog_8_method_14_code
def yX6_word : MethodName := ⟨RX6, "word", "()I"⟩
abbrev cX6_reads : ByteArray := prog_8_method_15_code
def yX6_reads : MethodName := ⟨RX6, "reads", "(Ljava/lang/String;)Z"⟩
abbrev cX6_sign : ByteArray := prog_8_method_16_code
def yX6_sign : MethodName := ⟨RX6, "sign", "(I)I"⟩
abbrev cX6_isDigit : ByteArray := prog_8_method_17_code
def yX6_isDigit : MethodName := ⟨RX6, "isDigit", "(I)Z"⟩
abbrev cX6_isLetter : ByteArray := prog_8_method_18_code
def yX6_isLetter : MethodName := ⟨RX6, "isLetter", "(I)Z"⟩
def RX7 : String := "SchoolOnRaft$Search"
def TX7 : u_T := fun k => match k with
  | 0 => ("SchoolOnRaft$Search", "row", "[I", true)
  | 1 => ("SchoolOnRaft$Search", "most", "I", false)
  | 2 => ("SchoolOnRaft$Search", "found", "Z", false)
  | 3 => ("SchoolOnRaft$Search", "tried", "[I", true)
  | 4 => ("SchoolOnRaft$Search", "memories", "[I", true)
  | 5 => ("SchoolOnRaft$Search", "hearing", "[I", true)
  | _ => ("SchoolOnRaft$Search", "gains", "[I", true)
def tyX7 : Nat → FieldType := fun k => match k with
  | 0 => .array .int
  | 1 => .int
  | 2 => .boolean
  | 3 => .array .int
  | 4 => .array .int
  | 5 => .array .int
  | _ => .array .int
abbrev wsX70 : List Cond := u_ws RX7 TX7 7
theorem nmX7 : ∀ a, a < 7 → ∀ b, b < 7 → a ≠ b → (TX7 a).2.1 ≠ (TX7 b).2.1 := by decide +kernel
theorem tyX7_ok : ∀ k, k < 7 → parseFieldDescriptor (TX7 k).2.2.1 = some (tyX7 k) := by decide +kernel
abbrev cX7_init : ByteArray := prog_9_method_1_code
def yX7_init : MethodName := ⟨RX7, "<init>", "()V"⟩
abbrev cX7_forget : ByteArray := prog_9_method_2_code
def yX7_forget : MethodName := ⟨RX7, "forget", "()V"⟩
abbrev cX7_find : ByteArray := prog_9_method_3_code
def yX7_find : MethodName := ⟨RX7, "find", "(LSchoolOnRaft$Spring;)V"⟩
abbrev cX7_visit : ByteArray := prog_9_method_4_code
def yX7_visit : MethodName := ⟨RX7, "visit", "(LSchoolOnRaft$Spring;I)V"⟩
abbrev cX7_step : ByteArray := prog_9_method_5_code
def yX7_step : MethodName := ⟨RX7, "step", "(LSchoolOnRaft$Spring;II)Z"⟩
abbrev cX7_listens : ByteArray := prog_9_method_6_code
def yX7_listens : MethodName := ⟨RX7, "listens", "(LSchoolOnRaft$Spring;IIII)Z"⟩
abbrev cX7_weigh : ByteArray := prog_9_method_7_code
def yX7_weigh : MethodName := ⟨RX7, "weigh", "(LSchoolOnRaft$Spring;)V"⟩
def RX8 : String := "SchoolOnRaft$SongKind"
def TX8 : u_T := fun k => match k with
  | _ => ("", "", "", false)
def tyX8 : Nat → FieldType := fun k => match k with
  | _ => .int
abbrev wsX80 : List Cond := u_ws RX8 TX8 0
theorem nmX8 : ∀ a, a < 0 → ∀ b, b < 0 → a ≠ b → (TX8 a).2.1 ≠ (TX8 b).2.1 := by decide +kernel
theorem tyX8_ok : ∀ k, k < 0 → parseFieldDescriptor (TX8 k).2.2.1 = some (tyX8 k) := by decide +kernel
abbrev cX8_init : ByteArray := prog_10_method_1_code
def yX8_init : MethodName := ⟨RX8, "<init>", "()V"⟩
abbrev cX8_times : ByteArray := prog_10_method_2_code
def yX8_times : MethodName := ⟨RX8, "times", "(I)I"⟩
abbrev cX8_keeps : ByteArray := prog_10_method_3_code
def yX8_keeps : MethodName := ⟨RX8, "keeps", "(II)Z"⟩
abbrev cX8_value : ByteArray := prog_10_method_4_code
def yX8_value : MethodName := ⟨RX8, "value", "(I)I"⟩
def RX9 : String := "SchoolOnRaft$Spring"
def TX9 : u_T := fun k => match k with
  | 0 => ("SchoolOnRaft$Spring", "now", "LSchoolOnRaft$Board;", true)
  | 1 => ("SchoolOnRaft$Spring", "texts", "[LSchoolOnRaft$Text;", true)
  | 2 => ("SchoolOnRaft$Spring", "textCount", "I", false)
  | 3 => ("SchoolOnRaft$Spring", "kinds", "[LSchoolOnRaft$Kind;", true)
  | 4 => ("SchoolOnRaft$Spring", "scene", "[I", true)
  | 5 => ("SchoolOnRaft$Spring", "stack", "[I", true)
  | _ => ("SchoolOnRaft$Spring", "first", "LSchoolOnRaft$Text;", true)
def tyX9 : Nat → FieldType := fun k => match k with
  | 0 => .object "SchoolOnRaft$Board"
  | 1 => .array (.object "SchoolOnRaft$Text")
  | 2 => .int
  | 3 => .array (.object "SchoolOnRaft$Kind")
  | 4 => .array .int
  | 5 => .array .int
  | _ => .object "SchoolOnRaft$Text"
abbrev wsX90 : List Cond := u_ws RX9 TX9 7
theorem nmX9 : ∀ a, a < 7 → ∀ b, b < 7 → a ≠ b → (TX9 a).2.1 ≠ (TX9 b).2.1 := by decide +kernel
theorem tyX9_ok : ∀ k, k < 7 → parseFieldDescriptor (TX9 k).2.2.1 = some (tyX9 k) := by decide +kernel
abbrev cX9_init : ByteArray := prog_11_method_1_code
def yX9_init : MethodName := ⟨RX9, "<init>", "()V"⟩
abbrev cX9_timesHeard : ByteArray := prog_11_method_2_code
def yX9_timesHeard : MethodName := ⟨RX9, "timesHeard", "(II)I"⟩
abbrev cX9_lastUnderstood : ByteArray := prog_11_method_3_code
def yX9_lastUnderstood : MethodName := ⟨RX9, "lastUnderstood", "(II)I"⟩
abbrev cX9_kindOf : ByteArray := prog_11_method_4_code
def yX9_kindOf : MethodName := ⟨RX9, "kindOf", "(I)LSchoolOnRaft$Kind;"⟩
abbrev cX9_owned : ByteArray := prog_11_method_5_code
def yX9_owned : MethodName := ⟨RX9, "owned", "(II)I"⟩
abbrev cX9_hears : ByteArray := prog_11_method_6_code
def yX9_hears : MethodName := ⟨RX9, "hears", "(IIIII)Z"⟩
abbrev cX9_gain : ByteArray := prog_11_method_7_code
def yX9_gain : MethodName := ⟨RX9, "gain", "(IIII)I"⟩
abbrev cX9_runCost : ByteArray := prog_11_method_8_code
def yX9_runCost : MethodName := ⟨RX9, "runCost", "(II)I"⟩
abbrev cX9_listened : ByteArray := prog_11_method_9_code
def yX9_listened : MethodName := ⟨RX9, "listened", "(III)I"⟩
abbrev cX9_memoryOf : ByteArray := prog_11_method_10_code
def yX9_memoryOf : MethodName := ⟨RX9, "memoryOf", "(III[I)I"⟩
abbrev cX9_ownedBehind : ByteArray := prog_11_method_11_code
def yX9_ownedBehind : MethodName := ⟨RX9, "ownedBehind", "(IIII)I"⟩
abbrev cX9_pointsOf : ByteArray := prog_11_method_12_code
def yX9_pointsOf : MethodName := ⟨RX9, "pointsOf", "(I[I)I"⟩
abbrev cX9_firstUnlike : ByteArray := prog_11_method_13_code
def yX9_firstUnlike : MethodName := ⟨RX9, "firstUnlike", "([IIII)I"⟩
abbrev cX9_ruleText : ByteArray := prog_11_method_14_code
def yX9_ruleText : MethodName := ⟨RX9, "ruleText", "()LSchoolOnRaft$Text;"⟩
abbrev cX9_stage : ByteArray := prog_11_method_15_code
def yX9_stage : MethodName := ⟨RX9, "stage", "(IIIII)V"⟩
abbrev cX9_worked : ByteArray := prog_11_method_16_code
def yX9_worked : MethodName := ⟨RX9, "worked", "([I)I"⟩
abbrev cX9_joined : ByteArray := prog_11_method_17_code
def yX9_joined : MethodName := ⟨RX9, "joined", "(III)I"⟩
def RX10 : String := "SchoolOnRaft$Text"
def TX10 : u_T := fun k => match k with
  | 0 => ("SchoolOnRaft$Text", "hears", "[I", true)
  | 1 => ("SchoolOnRaft$Text", "worth", "[I", true)
  | _ => ("SchoolOnRaft$Text", "runs", "[I", true)
def tyX10 : Nat → FieldType := fun k => match k with
  | 0 => .array .int
  | 1 => .array .int
  | _ => .array .int
abbrev wsX100 : List Cond := u_ws RX10 TX10 3
theorem nmX10 : ∀ a, a < 3 → ∀ b, b < 3 → a ≠ b → (TX10 a).2.1 ≠ (TX10 b).2.1 := by decide +kernel
theorem tyX10_ok : ∀ k, k < 3 → parseFieldDescriptor (TX10 k).2.2.1 = some (tyX10 k) := by decide +kernel
abbrev cX10_init : ByteArray := prog_12_method_1_code
def yX10_init : MethodName := ⟨RX10, "<init>", "([I[I[I)V"⟩
def RX11 : String := "SchoolOnRaft"
def TX11 : u_T := fun k => match k with
  | 0 => ("SchoolOnRaft", "spring", "LSchoolOnRaft$Spring;", true)
  | 1 => ("SchoolOnRaft", "search", "LSchoolOnRaft$Search;", true)
  | 2 => ("SchoolOnRaft", "reader", "LSchoolOnRaft$Reader;", true)
  | 3 => ("SchoolOnRaft", "kept", "LSchoolOnRaft$Board;", true)
  | 4 => ("SchoolOnRaft", "imaged", "Z", false)
  | 5 => ("SchoolOnRaft", "draft", "[I", true)
  | 6 => ("SchoolOnRaft", "ends", "[I", true)
  | 7 => ("SchoolOnRaft", "items", "[[I", true)
  | 8 => ("SchoolOnRaft", "sizes", "[I", true)
  | _ => ("SchoolOnRaft", "sorts", "[I", true)
def tyX11 : Nat → FieldType := fun k => match k with
  | 0 => .object "SchoolOnRaft$Spring"
  | 1 => .object "SchoolOnRaft$Search"
  | 2 => .object "SchoolOnRaft$Reader"
  | 3 => .object "SchoolOnRaft$Board"
  | 4 => .boolean
  | 5 => .array .int
  | 6 => .array .int
  | 7 => .array (.array .int)
  | 8 => .array .int
  | _ => .array .int
abbrev wsX110 : List Cond := u_ws RX11 TX11 10
theorem nmX11 : ∀ a, a < 10 → ∀ b, b < 10 → a ≠ b → (TX11 a).2.1 ≠ (TX11 b).2.1 := by decide +kernel
theorem tyX11_ok : ∀ k, k < 10 → parseFieldDescriptor (TX11 k).2.2.1 = some (tyX11 k) := by decide +kernel
abbrev cX11_init : ByteArray := prog_1_method_1_code
def yX11_init : MethodName := ⟨RX11, "<init>", "()V"⟩
abbrev cX11_lesson : ByteArray := prog_1_method_2_code
def yX11_lesson : MethodName := ⟨RX11, "lesson", "(III)I"⟩
abbrev cX11_child : ByteArray := prog_1_method_3_code
def yX11_child : MethodName := ⟨RX11, "child", "(II)I"⟩
abbrev cX11_set : ByteArray := prog_1_method_4_code
def yX11_set : MethodName := ⟨RX11, "set", "(III)I"⟩
abbrev cX11_told : ByteArray := prog_1_method_5_code
def yX11_told : MethodName := ⟨RX11, "told", "(II)I"⟩
abbrev cX11_give : ByteArray := prog_1_method_6_code
def yX11_give : MethodName := ⟨RX11, "give", "(III)I"⟩
abbrev cX11_given : ByteArray := prog_1_method_7_code
def yX11_given : MethodName := ⟨RX11, "given", "(II)I"⟩
abbrev cX11_feed : ByteArray := prog_1_method_8_code
def yX11_feed : MethodName := ⟨RX11, "feed", "(I)I"⟩
abbrev cX11_text : ByteArray := prog_1_method_9_code
def yX11_text : MethodName := ⟨RX11, "text", "()I"⟩
abbrev cX11_force : ByteArray := prog_1_method_10_code
def yX11_force : MethodName := ⟨RX11, "force", "(I)I"⟩
abbrev cX11_has : ByteArray := prog_1_method_11_code
def yX11_has : MethodName := ⟨RX11, "has", "(II)I"⟩
abbrev cX11_heard : ByteArray := prog_1_method_12_code
def yX11_heard : MethodName := ⟨RX11, "heard", "(III)I"⟩
abbrev cX11_points : ByteArray := prog_1_method_13_code
def yX11_points : MethodName := ⟨RX11, "points", "(I)I"⟩
abbrev cX11_best : ByteArray := prog_1_method_14_code
def yX11_best : MethodName := ⟨RX11, "best", "(I)I"⟩
abbrev cX11_lay : ByteArray := prog_1_method_15_code
def yX11_lay : MethodName := ⟨RX11, "lay", "()I"⟩
abbrev cX11_run : ByteArray := prog_1_method_16_code
def yX11_run : MethodName := ⟨RX11, "run", "(III)I"⟩
abbrev cX11_twice : ByteArray := prog_1_method_17_code
def yX11_twice : MethodName := ⟨RX11, "twice", "(II)I"⟩
abbrev cX11_change : ByteArray := prog_1_method_18_code
def yX11_change : MethodName := ⟨RX11, "change", "(II)I"⟩
abbrev cX11_exam : ByteArray := prog_1_method_19_code
def yX11_exam : MethodName := ⟨RX11, "exam", "(II)I"⟩
abbrev cX11_aboard : ByteArray := prog_1_method_20_code
def yX11_aboard : MethodName := ⟨RX11, "aboard", "(III)I"⟩
abbrev cX11_together : ByteArray := prog_1_method_21_code
def yX11_together : MethodName := ⟨RX11, "together", "(I)I"⟩
abbrev cX11_known : ByteArray := prog_1_method_22_code
def yX11_known : MethodName := ⟨RX11, "known", "(I)I"⟩
abbrev cX11_drawn : ByteArray := prog_1_method_23_code
def yX11_drawn : MethodName := ⟨RX11, "drawn", "(II)I"⟩
abbrev cX11_chance : ByteArray := prog_1_method_24_code
def yX11_chance : MethodName := ⟨RX11, "chance", "(IIIII)J"⟩
abbrev cX11_image : ByteArray := prog_1_method_25_code
def yX11_image : MethodName := ⟨RX11, "image", "()I"⟩
abbrev cX11_back : ByteArray := prog_1_method_26_code
def yX11_back : MethodName := ⟨RX11, "back", "()I"⟩
abbrev cX11_count : ByteArray := prog_1_method_27_code
def yX11_count : MethodName := ⟨RX11, "count", "(I)I"⟩
abbrev cX11_sheet : ByteArray := prog_1_method_28_code
def yX11_sheet : MethodName := ⟨RX11, "sheet", "(III)I"⟩
abbrev cX11_cell : ByteArray := prog_1_method_29_code
def yX11_cell : MethodName := ⟨RX11, "cell", "(III)I"⟩
abbrev cX11_copy : ByteArray := prog_1_method_30_code
def yX11_copy : MethodName := ⟨RX11, "copy", "(IIIII)I"⟩
abbrev cX11_children : ByteArray := prog_1_method_31_code
def yX11_children : MethodName := ⟨RX11, "children", "(IIII)I"⟩
abbrev cX11_taken : ByteArray := prog_1_method_32_code
def yX11_taken : MethodName := ⟨RX11, "taken", "(II)I"⟩
abbrev cX11_isLesson : ByteArray := prog_1_method_33_code
def yX11_isLesson : MethodName := ⟨RX11, "isLesson", "(I)Z"⟩
abbrev cX11_isChild : ByteArray := prog_1_method_34_code
def yX11_isChild : MethodName := ⟨RX11, "isChild", "(I)Z"⟩
abbrev cX11_isBend : ByteArray := prog_1_method_35_code
def yX11_isBend : MethodName := ⟨RX11, "isBend", "(I)Z"⟩
abbrev cX11_isRaft : ByteArray := prog_1_method_36_code
def yX11_isRaft : MethodName := ⟨RX11, "isRaft", "(I)Z"⟩
abbrev cX11_isKind : ByteArray := prog_1_method_37_code
def yX11_isKind : MethodName := ⟨RX11, "isKind", "(I)Z"⟩
abbrev cX11_isNumber : ByteArray := prog_1_method_38_code
def yX11_isNumber : MethodName := ⟨RX11, "isNumber", "(I)Z"⟩
abbrev cX11_isAge : ByteArray := prog_1_method_39_code
def yX11_isAge : MethodName := ⟨RX11, "isAge", "(I)Z"⟩
abbrev cX11_isWater : ByteArray := prog_1_method_40_code
def yX11_isWater : MethodName := ⟨RX11, "isWater", "(I)Z"⟩
abbrev cX11_isSheet : ByteArray := prog_1_method_41_code
def yX11_isSheet : MethodName := ⟨RX11, "isSheet", "(I)Z"⟩
abbrev cX11_isSort : ByteArray := prog_1_method_42_code
def yX11_isSort : MethodName := ⟨RX11, "isSort", "(I)Z"⟩
abbrev cX11_areLessons : ByteArray := prog_1_method_43_code
def yX11_areLessons : MethodName := ⟨RX11, "areLessons", "(II)Z"⟩
abbrev cX11_isStretch : ByteArray := prog_1_method_44_code
def yX11_isStretch : MethodName := ⟨RX11, "isStretch", "(III)Z"⟩
abbrev cX11_maySet : ByteArray := prog_1_method_45_code
def yX11_maySet : MethodName := ⟨RX11, "maySet", "(III)Z"⟩
abbrev cX11_settable : ByteArray := prog_1_method_46_code
def yX11_settable : MethodName := ⟨RX11, "settable", "(I)[I"⟩
abbrev cX11_isUnder : ByteArray := prog_1_method_47_code
def yX11_isUnder : MethodName := ⟨RX11, "isUnder", "(LSchoolOnRaft$Kind;I)Z"⟩
abbrev cX11_refusalOfExam : ByteArray := prog_1_method_48_code
def yX11_refusalOfExam : MethodName := ⟨RX11, "refusalOfExam", "(II)I"⟩
abbrev cX11_planOf : ByteArray := prog_1_method_49_code
def yX11_planOf : MethodName := ⟨RX11, "planOf", "(I)[I"⟩
abbrev cX11_bring : ByteArray := prog_1_method_50_code
def yX11_bring : MethodName := ⟨RX11, "bring", "(II)I"⟩
abbrev cX11_trimmed : ByteArray := prog_1_method_51_code
def yX11_trimmed : MethodName := ⟨RX11, "trimmed", "(II)I"⟩
abbrev cX11_pointsOfAll : ByteArray := prog_1_method_52_code
def yX11_pointsOfAll : MethodName := ⟨RX11, "pointsOfAll", "([I)I"⟩
abbrev cX11_pointsChanging : ByteArray := prog_1_method_53_code
def yX11_pointsChanging : MethodName := ⟨RX11, "pointsChanging", "(II)I"⟩
abbrev cX11_costOf : ByteArray := prog_1_method_54_code
def yX11_costOf : MethodName := ⟨RX11, "costOf", "(III)I"⟩
abbrev cX11_ownedAtEnd : ByteArray := prog_1_method_55_code
def yX11_ownedAtEnd : MethodName := ⟨RX11, "ownedAtEnd", "(I[I)I"⟩
abbrev cX11_endsOf : ByteArray := prog_1_method_56_code
def yX11_endsOf : MethodName := ⟨RX11, "endsOf", "(I)I"⟩
abbrev cX11_whoHave : ByteArray := prog_1_method_57_code
def yX11_whoHave : MethodName := ⟨RX11, "whoHave", "(I[I)I"⟩
abbrev cX11_draw : ByteArray := prog_1_method_58_code
def yX11_draw : MethodName := ⟨RX11, "draw", "(II)V"⟩
abbrev cX11_commonDivisor : ByteArray := prog_1_method_59_code
def yX11_commonDivisor : MethodName := ⟨RX11, "commonDivisor", "(II)I"⟩
abbrev cX11_bendsWithLesson : ByteArray := prog_1_method_60_code
def yX11_bendsWithLesson : MethodName := ⟨RX11, "bendsWithLesson", "([I)I"⟩
def RX12 : String := "SchoolOnRaftModel"
def TX12 : u_T := fun k => match k with
  | 0 => ("SchoolOnRaftModel", "thrown", "I", false)
  | 1 => ("SchoolOnRaftModel", "texts", "[I", true)
  | 2 => ("SchoolOnRaftModel", "textSize", "[I", true)
  | 3 => ("SchoolOnRaftModel", "textCount", "I", false)
  | 4 => ("SchoolOnRaftModel", "rule", "I", false)
  | 5 => ("SchoolOnRaftModel", "tape", "[I", true)
  | 6 => ("SchoolOnRaftModel", "taped", "I", false)
  | 7 => ("SchoolOnRaftModel", "kinds", "[I", true)
  | 8 => ("SchoolOnRaftModel", "numbers", "[I", true)
  | 9 => ("SchoolOnRaftModel", "needs", "[I", true)
  | 10 => ("SchoolOnRaftModel", "lessons", "I", false)
  | 11 => ("SchoolOnRaftModel", "ons", "[I", true)
  | 12 => ("SchoolOnRaftModel", "offs", "[I", true)
  | 13 => ("SchoolOnRaftModel", "ages", "[I", true)
  | 14 => ("SchoolOnRaftModel", "childCount", "I", false)
  | 15 => ("SchoolOnRaftModel", "plans", "[I", true)
  | 16 => ("SchoolOnRaftModel", "ofBend", "I", false)
  | 17 => ("SchoolOnRaftModel", "ofChild", "I", false)
  | 18 => ("SchoolOnRaftModel", "ofLesson", "I", false)
  | 19 => ("SchoolOnRaftModel", "ofKnown", "I", false)
  | 20 => ("SchoolOnRaftModel", "ofAge", "I", false)
  | 21 => ("SchoolOnRaftModel", "ofOften", "I", false)
  | 22 => ("SchoolOnRaftModel", "from", "I", false)
  | 23 => ("SchoolOnRaftModel", "size", "I", false)
  | 24 => ("SchoolOnRaftModel", "here", "I", false)
  | 25 => ("SchoolOnRaftModel", "token", "I", false)
  | 26 => ("SchoolOnRaftModel", "tokenAt", "I", false)
  | 27 => ("SchoolOnRaftModel", "tokenWorth", "J", false)
  | 28 => ("SchoolOnRaftModel", "open", "I", false)
  | 29 => ("SchoolOnRaftModel", "bad", "Z", false)
  | 30 => ("SchoolOnRaftModel", "fault", "I", false)
  | 31 => ("SchoolOnRaftModel", "hearsNote", "[I", true)
  | 32 => ("SchoolOnRaftModel", "worthNote", "[I", true)
  | 33 => ("SchoolOnRaftModel", "often", "[I", true)
  | 34 => ("SchoolOnRaftModel", "last", "[I", true)
  | 35 => ("SchoolOnRaftModel", "row", "[I", true)
  | 36 => ("SchoolOnRaftModel", "hasAt", "[I", true)
  | 37 => ("SchoolOnRaftModel", "sums", "[I", true)
  | 38 => ("SchoolOnRaftModel", "bestRow", "[I", true)
  | 39 => ("SchoolOnRaftModel", "bestPoints", "I", false)
  | 40 => ("SchoolOnRaftModel", "haves", "[I", true)
  | 41 => ("SchoolOnRaftModel", "kept", "[I", true)
  | 42 => ("SchoolOnRaftModel", "lessonsKept", "I", false)
  | 43 => ("SchoolOnRaftModel", "childrenKept", "I", false)
  | 44 => ("SchoolOnRaftModel", "ruleKept", "I", false)
  | 45 => ("SchoolOnRaftModel", "isThere", "[Z", true)
  | 46 => ("SchoolOnRaftModel", "sorts", "[I", true)
  | 47 => ("SchoolOnRaftModel", "sheetSize", "[I", true)
  | _ => ("SchoolOnRaftModel", "items", "[I", true)
def tyX12 : Nat → FieldType := fun k => match k with
  | 0 => .int
  | 1 => .array .int
  | 2 => .array .int
  | 3 => .int
  | 4 => .int
  | 5 => .array .int
  | 6 => .int
  | 7 => .array .int
  | 8 => .array .int
  | 9 => .array .int
  | 10 => .int
  | 11 => .array .int
  | 12 => .array .int
  | 13 => .array .int
  | 14 => .int
  | 15 => .array .int
  | 16 => .int
  | 17 => .int
  | 18 => .int
  | 19 => .int
  | 20 => .int
  | 21 => .int
  | 22 => .int
  | 23 => .int
  | 24 => .int
  | 25 => .int
  | 26 => .int
  | 27 => .long
  | 28 => .int
  | 29 => .boolean
  | 30 => .int
  | 31 => .array .int
  | 32 => .array .int
  | 33 => .array .int
  | 34 => .array .int
  | 35 => .array .int
  | 36 => .array .int
  | 37 => .array .int
  | 38 => .array .int
  | 39 => .int
  | 40 => .array .int
  | 41 => .array .int
  | 42 => .int
  | 43 => .int
  | 44 => .int
  | 45 => .array .boolean
  | 46 => .array .int
  | 47 => .array .int
  | _ => .array .int
abbrev wsX120 : List Cond := u_ws RX12 TX12 49
theorem nmX12 : ∀ a, a < 49 → ∀ b, b < 49 → a ≠ b → (TX12 a).2.1 ≠ (TX12 b).2.1 := by decide +kernel
theorem tyX12_ok : ∀ k, k < 49 → parseFieldDescriptor (TX12 k).2.2.1 = some (tyX12 k) := by decide +kernel
abbrev cX12_in : ByteArray := prog_14_method_2_code
def yX12_in : MethodName := ⟨RX12, "in", "(JJJ)Z"⟩
abbrev cX12_within : ByteArray := prog_14_method_3_code
def yX12_within : MethodName := ⟨RX12, "within", "(III)I"⟩
abbrev cX12_bitsOf : ByteArray := prog_14_method_4_code
def yX12_bitsOf : MethodName := ⟨RX12, "bitsOf", "(I)I"⟩
abbrev cX12_init : ByteArray := prog_14_method_5_code
def yX12_init : MethodName := ⟨RX12, "<init>", "()V"⟩
abbrev cX12_spell : ByteArray := prog_14_method_6_code
def yX12_spell : MethodName := ⟨RX12, "spell", "(IIIIIIIII)V"⟩
abbrev cX12_isLesson : ByteArray := prog_14_method_7_code
def yX12_isLesson : MethodName := ⟨RX12, "isLesson", "(I)Z"⟩
abbrev cX12_isChild : ByteArray := prog_14_method_8_code
def yX12_isChild : MethodName := ⟨RX12, "isChild", "(I)Z"⟩
abbrev cX12_lesson : ByteArray := prog_14_method_9_code
def yX12_lesson : MethodName := ⟨RX12, "lesson", "(III)I"⟩
abbrev cX12_child : ByteArray := prog_14_method_10_code
def yX12_child : MethodName := ⟨RX12, "child", "(II)I"⟩
abbrev cX12_set : ByteArray := prog_14_method_11_code
def yX12_set : MethodName := ⟨RX12, "set", "(III)I"⟩
abbrev cX12_times : ByteArray := prog_14_method_12_code
def yX12_times : MethodName := ⟨RX12, "times", "(I)I"⟩
abbrev cX12_keeps : ByteArray := prog_14_method_13_code
def yX12_keeps : MethodName := ⟨RX12, "keeps", "(II)Z"⟩
abbrev cX12_pointsOf : ByteArray := prog_14_method_14_code
def yX12_pointsOf : MethodName := ⟨RX12, "pointsOf", "(I)I"⟩
abbrev cX12_told : ByteArray := prog_14_method_15_code
def yX12_told : MethodName := ⟨RX12, "told", "(II)I"⟩
abbrev cX12_give : ByteArray := prog_14_method_16_code
def yX12_give : MethodName := ⟨RX12, "give", "(III)I"⟩
abbrev cX12_given : ByteArray := prog_14_method_17_code
def yX12_given : MethodName := ⟨RX12, "given", "(II)I"⟩
abbrev cX12_feed : ByteArray := prog_14_method_18_code
def yX12_feed : MethodName := ⟨RX12, "feed", "(I)I"⟩
abbrev cX12_byteAt : ByteArray := prog_14_method_19_code
def yX12_byteAt : MethodName := ⟨RX12, "byteAt", "(I)I"⟩
abbrev cX12_next : ByteArray := prog_14_method_20_code
def yX12_next : MethodName := ⟨RX12, "next", "()V"⟩
abbrev cX12_fail : ByteArray := prog_14_method_21_code
def yX12_fail : MethodName := ⟨RX12, "fail", "()V"⟩
abbrev cX12_isLetter : ByteArray := prog_14_method_22_code
def yX12_isLetter : MethodName := ⟨RX12, "isLetter", "(II)Z"⟩
abbrev cX12_isWord : ByteArray := prog_14_method_23_code
def yX12_isWord : MethodName := ⟨RX12, "isWord", "(IIIIIIII)Z"⟩
abbrev cX12_isSign : ByteArray := prog_14_method_24_code
def yX12_isSign : MethodName := ⟨RX12, "isSign", "(I)Z"⟩
abbrev cX12_opens : ByteArray := prog_14_method_25_code
def yX12_opens : MethodName := ⟨RX12, "opens", "()Z"⟩
abbrev cX12_name : ByteArray := prog_14_method_26_code
def yX12_name : MethodName := ⟨RX12, "name", "()I"⟩
abbrev cX12_atom : ByteArray := prog_14_method_27_code
def yX12_atom : MethodName := ⟨RX12, "atom", "()I"⟩
abbrev cX12_term : ByteArray := prog_14_method_28_code
def yX12_term : MethodName := ⟨RX12, "term", "()I"⟩
abbrev cX12_added : ByteArray := prog_14_method_29_code
def yX12_added : MethodName := ⟨RX12, "added", "()I"⟩
abbrev cX12_not : ByteArray := prog_14_method_30_code
def yX12_not : MethodName := ⟨RX12, "not", "()I"⟩
abbrev cX12_both : ByteArray := prog_14_method_31_code
def yX12_both : MethodName := ⟨RX12, "both", "()I"⟩
abbrev cX12_either : ByteArray := prog_14_method_32_code
def yX12_either : MethodName := ⟨RX12, "either", "()I"⟩
abbrev cX12_part : ByteArray := prog_14_method_33_code
def yX12_part : MethodName := ⟨RX12, "part", "(Z)I"⟩
abbrev cX12_read : ByteArray := prog_14_method_34_code
def yX12_read : MethodName := ⟨RX12, "read", "(II)I"⟩
abbrev cX12_text : ByteArray := prog_14_method_35_code
def yX12_text : MethodName := ⟨RX12, "text", "()I"⟩
abbrev cX12_force : ByteArray := prog_14_method_36_code
def yX12_force : MethodName := ⟨RX12, "force", "(I)I"⟩
abbrev cX12_says : ByteArray := prog_14_method_37_code
def yX12_says : MethodName := ⟨RX12, "says", "(IIIIII)I"⟩
abbrev cX12_forgets : ByteArray := prog_14_method_38_code
def yX12_forgets : MethodName := ⟨RX12, "forgets", "()V"⟩
abbrev cX12_hears : ByteArray := prog_14_method_39_code
def yX12_hears : MethodName := ⟨RX12, "hears", "(IIIII)Z"⟩
abbrev cX12_worth : ByteArray := prog_14_method_40_code
def yX12_worth : MethodName := ⟨RX12, "worth", "(IIII)I"⟩
abbrev cX12_begins : ByteArray := prog_14_method_41_code
def yX12_begins : MethodName := ⟨RX12, "begins", "()V"⟩
abbrev cX12_hasBy : ByteArray := prog_14_method_42_code
def yX12_hasBy : MethodName := ⟨RX12, "hasBy", "(II)I"⟩
abbrev cX12_passes : ByteArray := prog_14_method_43_code
def yX12_passes : MethodName := ⟨RX12, "passes", "(IIIZ)V"⟩
abbrev cX12_spring : ByteArray := prog_14_method_44_code
def yX12_spring : MethodName := ⟨RX12, "spring", "(III)V"⟩
abbrev cX12_endPoints : ByteArray := prog_14_method_45_code
def yX12_endPoints : MethodName := ⟨RX12, "endPoints", "(I)I"⟩
abbrev cX12_takesPlan : ByteArray := prog_14_method_46_code
def yX12_takesPlan : MethodName := ⟨RX12, "takesPlan", "()V"⟩
abbrev cX12_pointsBy : ByteArray := prog_14_method_47_code
def yX12_pointsBy : MethodName := ⟨RX12, "pointsBy", "(I)I"⟩
abbrev cX12_allPoints : ByteArray := prog_14_method_48_code
def yX12_allPoints : MethodName := ⟨RX12, "allPoints", "()I"⟩
abbrev cX12_has : ByteArray := prog_14_method_49_code
def yX12_has : MethodName := ⟨RX12, "has", "(II)I"⟩
abbrev cX12_heard : ByteArray := prog_14_method_50_code
def yX12_heard : MethodName := ⟨RX12, "heard", "(III)I"⟩
abbrev cX12_points : ByteArray := prog_14_method_51_code
def yX12_points : MethodName := ⟨RX12, "points", "(I)I"⟩
abbrev cX12_adds : ByteArray := prog_14_method_52_code
def yX12_adds : MethodName := ⟨RX12, "adds", "(III)V"⟩
abbrev cX12_seeks : ByteArray := prog_14_method_53_code
def yX12_seeks : MethodName := ⟨RX12, "seeks", "()V"⟩
abbrev cX12_best : ByteArray := prog_14_method_54_code
def yX12_best : MethodName := ⟨RX12, "best", "(I)I"⟩
abbrev cX12_lay : ByteArray := prog_14_method_55_code
def yX12_lay : MethodName := ⟨RX12, "lay", "()I"⟩
abbrev cX12_run : ByteArray := prog_14_method_56_code
def yX12_run : MethodName := ⟨RX12, "run", "(III)I"⟩
abbrev cX12_twice : ByteArray := prog_14_method_57_code
def yX12_twice : MethodName := ⟨RX12, "twice", "(II)I"⟩
abbrev cX12_changeAt : ByteArray := prog_14_method_58_code
def yX12_changeAt : MethodName := ⟨RX12, "changeAt", "(II)I"⟩
abbrev cX12_change : ByteArray := prog_14_method_59_code
def yX12_change : MethodName := ⟨RX12, "change", "(II)I"⟩
abbrev cX12_examBad : ByteArray := prog_14_method_60_code
def yX12_examBad : MethodName := ⟨RX12, "examBad", "(II)I"⟩
abbrev cX12_unlike : ByteArray := prog_14_method_61_code
def yX12_unlike : MethodName := ⟨RX12, "unlike", "(I)I"⟩
abbrev cX12_exam : ByteArray := prog_14_method_62_code
def yX12_exam : MethodName := ⟨RX12, "exam", "(II)I"⟩
abbrev cX12_aboard : ByteArray := prog_14_method_63_code
def yX12_aboard : MethodName := ⟨RX12, "aboard", "(III)I"⟩
abbrev cX12_allHave : ByteArray := prog_14_method_64_code
def yX12_allHave : MethodName := ⟨RX12, "allHave", "()I"⟩
abbrev cX12_together : ByteArray := prog_14_method_65_code
def yX12_together : MethodName := ⟨RX12, "together", "(I)I"⟩
abbrev cX12_known : ByteArray := prog_14_method_66_code
def yX12_known : MethodName := ⟨RX12, "known", "(I)I"⟩
abbrev cX12_floods : ByteArray := prog_14_method_67_code
def yX12_floods : MethodName := ⟨RX12, "floods", "(II)V"⟩
abbrev cX12_drawn : ByteArray := prog_14_method_68_code
def yX12_drawn : MethodName := ⟨RX12, "drawn", "(II)I"⟩
abbrev cX12_chance : ByteArray := prog_14_method_69_code
def yX12_chance : MethodName := ⟨RX12, "chance", "(IIIII)J"⟩
abbrev cX12_image : ByteArray := prog_14_method_70_code
def yX12_image : MethodName := ⟨RX12, "image", "()I"⟩
abbrev cX12_back : ByteArray := prog_14_method_71_code
def yX12_back : MethodName := ⟨RX12, "back", "()I"⟩
abbrev cX12_count : ByteArray := prog_14_method_72_code
def yX12_count : MethodName := ⟨RX12, "count", "(I)I"⟩
abbrev cX12_isSheet : ByteArray := prog_14_method_73_code
def yX12_isSheet : MethodName := ⟨RX12, "isSheet", "(I)Z"⟩
abbrev cX12_sheet : ByteArray := prog_14_method_74_code
def yX12_sheet : MethodName := ⟨RX12, "sheet", "(III)I"⟩
abbrev cX12_cell : ByteArray := prog_14_method_75_code
def yX12_cell : MethodName := ⟨RX12, "cell", "(III)I"⟩
abbrev cX12_copy : ByteArray := prog_14_method_76_code
def yX12_copy : MethodName := ⟨RX12, "copy", "(IIIII)I"⟩
abbrev cX12_children : ByteArray := prog_14_method_77_code
def yX12_children : MethodName := ⟨RX12, "children", "(IIII)I"⟩
abbrev cX12_over : ByteArray := prog_14_method_78_code
def yX12_over : MethodName := ⟨RX12, "over", "(I)I"⟩
abbrev cX12_taken : ByteArray := prog_14_method_79_code
def yX12_taken : MethodName := ⟨RX12, "taken", "(II)I"⟩
def RJx145de : String := "java/io/Serializable"
def TJx145de : u_T := fun k => match k with
  | _ => ("", "", "", false)
def tyJx145de : Nat → FieldType := fun k => match k with
  | _ => .int
abbrev wsJx145de0 : List Cond := u_ws RJx145de TJx145de 0
theorem nmJx145de : ∀ a, a < 0 → ∀ b, b < 0 → a ≠ b → (TJx145de a).2.1 ≠ (TJx145de b).2.1 := by decide +kernel
theorem tyJx145de_ok : ∀ k, k < 0 → parseFieldDescriptor (TJx145de k).2.2.1 = some (tyJx145de k) := by decide +kernel
def RJx9f9b0 : String := "java/lang/CharSequence"
def TJx9f9b0 : u_T := fun k => match k with
  | _ => ("", "", "", false)
def tyJx9f9b0 : Nat → FieldType := fun k => match k with
  | _ => .int
abbrev wsJx9f9b00 : List Cond := u_ws RJx9f9b0 TJx9f9b0 0
theorem nmJx9f9b0 : ∀ a, a < 0 → ∀ b, b < 0 → a ≠ b → (TJx9f9b0 a).2.1 ≠ (TJx9f9b0 b).2.1 := by decide +kernel
theorem tyJx9f9b0_ok : ∀ k, k < 0 → parseFieldDescriptor (TJx9f9b0 k).2.2.1 = some (tyJx9f9b0 k) := by decide +kernel
def RJx8e188 : String := "java/lang/Cloneable"
def TJx8e188 : u_T := fun k => match k with
  | _ => ("", "", "", false)
def tyJx8e188 : Nat → FieldType := fun k => match k with
  | _ => .int
abbrev wsJx8e1880 : List Cond := u_ws RJx8e188 TJx8e188 0
theorem nmJx8e188 : ∀ a, a < 0 → ∀ b, b < 0 → a ≠ b → (TJx8e188 a).2.1 ≠ (TJx8e188 b).2.1 := by decide +kernel
theorem tyJx8e188_ok : ∀ k, k < 0 → parseFieldDescriptor (TJx8e188 k).2.2.1 = some (tyJx8e188 k) := by decide +kernel
def RJxb160c : String := "java/lang/Comparable"
def TJxb160c : u_T := fun k => match k with
  | _ => ("", "", "", false)
def tyJxb160c : Nat → FieldType := fun k => match k with
  | _ => .int
abbrev wsJxb160c0 : List Cond := u_ws RJxb160c TJxb160c 0
theorem nmJxb160c : ∀ a, a < 0 → ∀ b, b < 0 → a ≠ b → (TJxb160c a).2.1 ≠ (TJxb160c b).2.1 := by decide +kernel
theorem tyJxb160c_ok : ∀ k, k < 0 → parseFieldDescriptor (TJxb160c k).2.2.1 = some (tyJxb160c k) := by decide +kernel
def RJ6 : String := "java/lang/Integer"
def TJ6 : u_T := fun k => match k with
  | _ => ("", "", "", false)
def tyJ6 : Nat → FieldType := fun k => match k with
  | _ => .int
abbrev wsJ60 : List Cond := u_ws RJ6 TJ6 0
theorem nmJ6 : ∀ a, a < 0 → ∀ b, b < 0 → a ≠ b → (TJ6 a).2.1 ≠ (TJ6 b).2.1 := by decide +kernel
theorem tyJ6_ok : ∀ k, k < 0 → parseFieldDescriptor (TJ6 k).2.2.1 = some (tyJ6 k) := by decide +kernel
abbrev cJ6_bitCount_0f7a4 : ByteArray := prog_16_method_49_code
def yJ6_bitCount_0f7a4 : MethodName := ⟨RJ6, "bitCount", "(I)I"⟩
def RJ9 : String := "java/lang/Math"
def TJ9 : u_T := fun k => match k with
  | _ => ("", "", "", false)
def tyJ9 : Nat → FieldType := fun k => match k with
  | _ => .int
abbrev wsJ90 : List Cond := u_ws RJ9 TJ9 0
theorem nmJ9 : ∀ a, a < 0 → ∀ b, b < 0 → a ≠ b → (TJ9 a).2.1 ≠ (TJ9 b).2.1 := by decide +kernel
theorem tyJ9_ok : ∀ k, k < 0 → parseFieldDescriptor (TJ9 k).2.2.1 = some (tyJ9 k) := by decide +kernel
abbrev cJ9_max_7cf53 : ByteArray := prog_17_method_65_code
def yJ9_max_7cf53 : MethodName := ⟨RJ9, "max", "(II)I"⟩
abbrev cJ9_min_7cf53 : ByteArray := prog_17_method_69_code
def yJ9_min_7cf53 : MethodName := ⟨RJ9, "min", "(II)I"⟩
def RJ0 : String := "java/lang/String"
def TJ0 : u_T := fun k => match k with
  | _ => ("", "", "", false)
def tyJ0 : Nat → FieldType := fun k => match k with
  | _ => .int
abbrev wsJ00 : List Cond := u_ws RJ0 TJ0 0
theorem nmJ0 : ∀ a, a < 0 → ∀ b, b < 0 → a ≠ b → (TJ0 a).2.1 ≠ (TJ0 b).2.1 := by decide +kernel
theorem tyJ0_ok : ∀ k, k < 0 → parseFieldDescriptor (TJ0 k).2.2.1 = some (tyJ0 k) := by decide +kernel
abbrev cJ0_length_8abf5 : ByteArray := prog_18_method_54_code
def yJ0_length_8abf5 : MethodName := ⟨RJ0, "length", "()I"⟩
abbrev cJ0_charAt_5068e : ByteArray := prog_18_method_56_code
def yJ0_charAt_5068e : MethodName := ⟨RJ0, "charAt", "(I)C"⟩
abbrev cJ0_coder_7d493 : ByteArray := prog_18_method_152_code
def yJ0_coder_7d493 : MethodName := ⟨RJ0, "coder", "()B"⟩
abbrev cJ0_isLatin1_aae02 : ByteArray := prog_18_method_154_code
def yJ0_isLatin1_aae02 : MethodName := ⟨RJ0, "isLatin1", "()Z"⟩
abbrev cJ0_checkIndex_df160 : ByteArray := prog_18_method_155_code
def yJ0_checkIndex_df160 : MethodName := ⟨RJ0, "checkIndex", "(II)V"⟩
def RJ1 : String := "java/lang/StringLatin1"
def TJ1 : u_T := fun k => match k with
  | _ => ("", "", "", false)
def tyJ1 : Nat → FieldType := fun k => match k with
  | _ => .int
abbrev wsJ10 : List Cond := u_ws RJ1 TJ1 0
theorem nmJ1 : ∀ a, a < 0 → ∀ b, b < 0 → a ≠ b → (TJ1 a).2.1 ≠ (TJ1 b).2.1 := by decide +kernel
theorem tyJ1_ok : ∀ k, k < 0 → parseFieldDescriptor (TJ1 k).2.2.1 = some (tyJ1 k) := by decide +kernel
abbrev cJ1_charAt_3b067 : ByteArray := prog_19_method_2_code
def yJ1_charAt_3b067 : MethodName := ⟨RJ1, "charAt", "([BI)C"⟩
def RJ2 : String := "java/lang/StringUTF16"
def TJ2 : u_T := fun k => match k with
  | _ => ("", "", "", false)
def tyJ2 : Nat → FieldType := fun k => match k with
  | _ => .int
abbrev wsJ20 : List Cond := u_ws RJ2 TJ2 0
theorem nmJ2 : ∀ a, a < 0 → ∀ b, b < 0 → a ≠ b → (TJ2 a).2.1 ≠ (TJ2 b).2.1 := by decide +kernel
theorem tyJ2_ok : ∀ k, k < 0 → parseFieldDescriptor (TJ2 k).2.2.1 = some (tyJ2 k) := by decide +kernel
abbrev cJ2_getChar_3b067 : ByteArray := prog_20_method_5_code
def yJ2_getChar_3b067 : MethodName := ⟨RJ2, "getChar", "([BI)C"⟩
abbrev cJ2_length_9d52b : ByteArray := prog_20_method_6_code
def yJ2_length_9d52b : MethodName := ⟨RJ2, "length", "([B)I"⟩
abbrev cJ2_charAt_3b067 : ByteArray := prog_20_method_83_code
def yJ2_charAt_3b067 : MethodName := ⟨RJ2, "charAt", "([BI)C"⟩
abbrev cJ2_checkIndex_2214a : ByteArray := prog_20_method_91_code
def yJ2_checkIndex_2214a : MethodName := ⟨RJ2, "checkIndex", "(I[B)V"⟩
def RJ10 : String := "java/lang/System"
def TJ10 : u_T := fun k => match k with
  | _ => ("", "", "", false)
def tyJ10 : Nat → FieldType := fun k => match k with
  | _ => .int
abbrev wsJ100 : List Cond := u_ws RJ10 TJ10 0
theorem nmJ10 : ∀ a, a < 0 → ∀ b, b < 0 → a ≠ b → (TJ10 a).2.1 ≠ (TJ10 b).2.1 := by decide +kernel
theorem tyJ10_ok : ∀ k, k < 0 → parseFieldDescriptor (TJ10 k).2.2.1 = some (tyJ10 k) := by decide +kernel
def RJxfd54e : String := "java/lang/constant/Constable"
def TJxfd54e : u_T := fun k => match k with
  | _ => ("", "", "", false)
def tyJxfd54e : Nat → FieldType := fun k => match k with
  | _ => .int
abbrev wsJxfd54e0 : List Cond := u_ws RJxfd54e TJxfd54e 0
theorem nmJxfd54e : ∀ a, a < 0 → ∀ b, b < 0 → a ≠ b → (TJxfd54e a).2.1 ≠ (TJxfd54e b).2.1 := by decide +kernel
theorem tyJxfd54e_ok : ∀ k, k < 0 → parseFieldDescriptor (TJxfd54e k).2.2.1 = some (tyJxfd54e k) := by decide +kernel
def RJx3cf43 : String := "java/lang/constant/ConstantDesc"
def TJx3cf43 : u_T := fun k => match k with
  | _ => ("", "", "", false)
def tyJx3cf43 : Nat → FieldType := fun k => match k with
  | _ => .int
abbrev wsJx3cf430 : List Cond := u_ws RJx3cf43 TJx3cf43 0
theorem nmJx3cf43 : ∀ a, a < 0 → ∀ b, b < 0 → a ≠ b → (TJx3cf43 a).2.1 ≠ (TJx3cf43 b).2.1 := by decide +kernel
theorem tyJx3cf43_ok : ∀ k, k < 0 → parseFieldDescriptor (TJx3cf43 k).2.2.1 = some (tyJx3cf43 k) := by decide +kernel
def RJ7 : String := "java/util/Arrays"
def TJ7 : u_T := fun k => match k with
  | _ => ("", "", "", false)
def tyJ7 : Nat → FieldType := fun k => match k with
  | _ => .int
abbrev wsJ70 : List Cond := u_ws RJ7 TJ7 0
theorem nmJ7 : ∀ a, a < 0 → ∀ b, b < 0 → a ≠ b → (TJ7 a).2.1 ≠ (TJ7 b).2.1 := by decide +kernel
theorem tyJ7_ok : ∀ k, k < 0 → parseFieldDescriptor (TJ7 k).2.2.1 = some (tyJ7 k) := by decide +kernel
abbrev cJ7_fill_53178 : ByteArray := prog_22_method_103_code
def yJ7_fill_53178 : MethodName := ⟨RJ7, "fill", "([II)V"⟩
abbrev cJ7_copyOf_59c91 : ByteArray := prog_22_method_123_code
def yJ7_copyOf_59c91 : MethodName := ⟨RJ7, "copyOf", "([II)[I"⟩
def RJ3 : String := "jdk/internal/util/Preconditions"
def TJ3 : u_T := fun k => match k with
  | _ => ("", "", "", false)
def tyJ3 : Nat → FieldType := fun k => match k with
  | _ => .int
abbrev wsJ30 : List Cond := u_ws RJ3 TJ3 0
theorem nmJ3 : ∀ a, a < 0 → ∀ b, b < 0 → a ≠ b → (TJ3 a).2.1 ≠ (TJ3 b).2.1 := by decide +kernel
theorem tyJ3_ok : ∀ k, k < 0 → parseFieldDescriptor (TJ3 k).2.2.1 = some (tyJ3 k) := by decide +kernel
abbrev cJ3_checkIndex_8e157 : ByteArray := prog_23_method_11_code
def yJ3_checkIndex_8e157 : MethodName := ⟨RJ3, "checkIndex", "(IILjava/util/function/BiFunction;)I"⟩
def RL : String := "SchoolOnRaftLaw"
abbrev cL_law : ByteArray := code
def yL_law : MethodName := ⟨RL, "law", "([I)Z"⟩
abbrev vwCl : List vw_C := [(RX0, TX0, 11), (RX1, TX1, 0), (RX2, TX2, 0), (RX3, TX3, 0), (RX4, TX4, 0), (RX5, TX5, 0), (RX6, TX6, 7), (RX7, TX7, 7), (RX8, TX8, 0), (RX9, TX9, 7), (RX10, TX10, 3), (RX11, TX11, 10), (RX12, TX12, 49)]
end
section
/-! ===== the mini machine: a picture of the heap by cell numbers, a run of straight code by evaluation ===== -/
/-- a cell's shape: an array (type number, length), or an object (class number, fields: 0 an int, 1 a long, 2 null, k + 3 cell k) -/
abbrev mm_Sh : Type := (Nat × Nat) ⊕ (Nat × List Nat)
/-- shapes, ints by cell and place, (longs by cell and place, the script's length, the script) -/
abbrev mm_Hp : Type := List mm_Sh × (Nat → Nat → Int32) × (Nat → Nat → Int64) × Nat × (Nat → Int32)
/-- the setting: class numbers and slots, array classes, base, addresses of the String constants, the script -/
abbrev mm_X : Type := va_G × (Nat → ClassId) × Nat × ((Nat → Nat) × (Nat → Nat)) × Nat × Nat × (Nat → Int32)
abbrev mm_L : Type := List (Option Value)
abbrev mm_S : Type := Nat × mm_L × List Value × mm_Hp
abbrev mm_M : Type := MethodName × ByteArray × Nat × Option FieldType
/-- an instruction: its place, itself, its length, two numbers and a value that resolve it -/
abbrev mm_E : Type := Nat × Instr × Nat × Nat × Nat × Value
def mm_G : List Cond := lw_tbl.filter goodWord
def mm_up (g : Nat → Nat → Int32) (k j : Nat) (v : Int32) : Nat → Nat → Int32 := fun a b => bif (a == k && b == j) then v else g a b
def mm_ul (g : Nat → Nat → Int64) (k j : Nat) (v : Int64) : Nat → Nat → Int64 := fun a b => bif (a == k && b == j) then v else g a b
def mm_rv (X : mm_X) (ad : Nat → Nat) : Value → Value
  | .ref k => .ref (ad k)
  | .retAddr i => .ref (bif Nat.ble 100 i && Nat.blt i 200 then X.2.2.2.1.2 (i - 100) else X.2.2.2.1.1 i)
  | .float _ => .ref X.2.2.2.2.1
  | .int x => .int x
  | .long x => .long x
  | .double x => .double x
  | .null => .null
theorem mm_rv_cat {X : mm_X} {ad : Nat → Nat} (v : Value) : (mm_rv X ad v).category = v.category := by cases v <;> rfl
/-- a field's value in the picture, and in the heap -/
def mm_vF (h : mm_Hp) (k j : Nat) : Nat → Value
  | 0 => .int (h.2.1 k j)
  | 1 => .long (h.2.2.1 k j)
  | 2 => .null
  | c + 3 => .ref c
def mm_cF (ad : Nat → Nat) (h : mm_Hp) (k j : Nat) : Nat → Value
  | 0 => .int (h.2.1 k j)
  | 1 => .long (h.2.2.1 k j)
  | 2 => .null
  | c + 3 => .ref (ad c)
theorem mm_rv_vF {X : mm_X} {ad : Nat → Nat} {h : mm_Hp} {k j c : Nat} : mm_rv X ad (mm_vF h k j c) = mm_cF ad h k j c := by
  match c with
  | 0 => rfl
  | 1 => rfl
  | 2 => rfl
  | c + 3 => rfl
/-- a place of an array of references: 0 null, k + 1 cell k -/
def mm_rd (ad : Nat → Nat) (x : Int32) : Option Nat := if x ≤ 0 then none else some (ad (x.toNatClampNeg - 1))
def mm_rf (x : Int32) : Value := if x ≤ 0 then .null else .ref (x.toNatClampNeg - 1)
theorem mm_rv_rf {X : mm_X} {ad : Nat → Nat} {x : Int32} : mm_rv X ad (mm_rf x) = va_rf (mm_rd ad x) := by
  unfold mm_rf mm_rd
  split <;> rfl
def mm_cv (X : mm_X) (ad : Nat → Nat) (h : mm_Hp) (k : Nat) : mm_Sh → va_E
  | .inl a => .inl (X.2.1 a.1, a.2, if a.1 < 2 then .inl (h.2.1 k) else .inr (.inr (.inr (.inr (fun i => mm_rd ad (h.2.1 k i))))))
  | .inr o => .inr (o.1, o.2.mapIdx (fun j c => mm_cF ad h k j c))
def mm_lay (X : mm_X) (ad : Nat → Nat) (h : mm_Hp) : va_W := h.1.mapIdx (fun k c => (ad k, mm_cv X ad h k c))
theorem mm_lay_get {X : mm_X} {ad : Nat → Nat} {h : mm_Hp} (k : Nat) : (mm_lay X ad h)[k]? = (h.1[k]?).map (fun c => (ad k, mm_cv X ad h k c)) := by
  simp [mm_lay]
theorem mm_lay_at {X : mm_X} {ad : Nat → Nat} {h : mm_Hp} {k : Nat} {c : mm_Sh} (hk : h.1[k]? = some c) : (mm_lay X ad h)[k]? = some (ad k, mm_cv X ad h k c) := by
  rw [mm_lay_get, hk]; rfl
def mm_A (X : mm_X) : Nat → Prop := fun q => X.2.2.1 ≤ q
/-- the heap holds the picture -/
def mm_Rel (X : mm_X) (ad : Nat → Nat) (h : mm_Hp) (H : Heap) : Prop := va_P X.1 vwCl (mm_lay X ad h) H ∧ va_D (mm_A X) (mm_lay X ad h) ∧ h.2.2.2 = X.2.2.2.2.2
/-- array types by number -/
def mm_tys (cA : Nat → ClassId) : List (ClassId × FieldType) := [(cA 0, .int), (cA 1, .boolean), (cA 2, .object "SchoolOnRaft$Text"), (cA 3, .object "SchoolOnRaft$Kind"), (cA 4, .array .int)]
def mm_isN : Cond → Bool
  | .methodLinkNest .. => true
  | .castable .. => true
  | .declares _ => true
  | _ => false
def mm_N : List Cond := lw_tbl.filter mm_isN
/-- pairs of kinds that aren't castable -/
def mm_nc : List (String × String) := [("SchoolOnRaft$Kind", "SchoolOnRaft$LongKind"), ("SchoolOnRaft$Kind", "SchoolOnRaft$LightKind"), ("SchoolOnRaft$Kind", "SchoolOnRaft$HardKind"), ("SchoolOnRaft$Kind", "SchoolOnRaft$SongKind"), ("SchoolOnRaft$Kind", "SchoolOnRaft$ProofKind"),
  ("SchoolOnRaft$LongKind", "SchoolOnRaft$LightKind"), ("SchoolOnRaft$LongKind", "SchoolOnRaft$HardKind"), ("SchoolOnRaft$LongKind", "SchoolOnRaft$SongKind"), ("SchoolOnRaft$LongKind", "SchoolOnRaft$ProofKind"),
  ("SchoolOnRaft$LightKind", "SchoolOnRaft$LongKind"), ("SchoolOnRaft$LightKind", "SchoolOnRaft$HardKind"), ("SchoolOnRaft$LightKind", "SchoolOnRaft$SongKind"), ("SchoolOnRaft$LightKind", "SchoolOnRaft$ProofKind"),
  ("SchoolOnRaft$HardKind", "SchoolOnRaft$LightKind"), ("SchoolOnRaft$HardKind", "SchoolOnRaft$SongKind"), ("SchoolOnRaft$HardKind", "SchoolOnRaft$ProofKind"),
  ("SchoolOnRaft$SongKind", "SchoolOnRaft$LongKind"), ("SchoolOnRaft$SongKind", "SchoolOnRaft$HardKind"), ("SchoolOnRaft$SongKind", "SchoolOnRaft$ProofKind"),
  ("SchoolOnRaft$ProofKind", "SchoolOnRaft$LightKind"), ("SchoolOnRaft$ProofKind", "SchoolOnRaft$HardKind"), ("SchoolOnRaft$ProofKind", "SchoolOnRaft$SongKind")]
/-- the String constants of Reader: the pool's places and the texts -/
def mm_str : List (Nat × String) := [(95, "bend"), (101, "child"), (103, "lesson"), (105, "known"), (107, "age"), (109, "often"), (111, "or"), (113, "and"), (115, "not"), (117, "hears"), (119, "worth"), (121, "runs")]
def mm_sl : List Nat := [4, 5, 6, 5, 3, 5, 2, 3, 3, 5, 5, 4]
def mm_sb : List (List Int32) := [[98, 101, 110, 100], [99, 104, 105, 108, 100], [108, 101, 115, 115, 111, 110], [107, 110, 111, 119, 110], [97, 103, 101], [111, 102, 116, 101, 110], [111, 114], [97, 110, 100], [110, 111, 116], [104, 101, 97, 114, 115], [119, 111, 114, 116, 104], [114, 117, 110, 115]]
/-- what holds of the tables at every state of the law's run -/
def mm_T (X : mm_X) (U : State) : Prop := va_K X.1 vwCl (mm_tys X.2.1) U ∧ (∀ w ∈ mm_N, va_Nw w U) ∧ va_AO "SchoolOnRaft$Text" U ∧ va_AO "SchoolOnRaft$Kind" U ∧ va_AOA .int U ∧ (∀ q ∈ mm_nc, va_Nc q.1 q.2 U) ∧ ∀ (i : Nat) (q : Nat × String), mm_str[i]? = some q → vk_R "SchoolOnRaft$Reader" q.1 q.2 (X.2.2.2.1.1 i) U
/-- what holds of the heap's old part -/
def mm_O (X : mm_X) (U : State) (H : Heap) : Prop := vk_S 12 mm_sl mm_sb X.2.2.2.1.1 X.2.2.2.1.2 (mm_A X) U H ∧ va_Z "java/lang/String" "COMPACT_STRINGS" "Z" (.int 1) (mm_A X) U H ∧ va_X X.2.2.2.2.1 X.2.2.2.2.2.1 X.2.2.2.2.2.2 U H ∧ X.2.2.2.2.1 < X.2.2.1 ∧ X.2.2.1 ≤ H.size ∧ (va_Z "jdk/internal/util/Preconditions" "SIOOBE_FORMATTER" "Ljava/util/function/BiFunction;" .null (mm_A X) U H ∨ va_Z "jdk/internal/util/Preconditions" "SIOOBE_FORMATTER" "Ljava/util/function/BiFunction;" (.ref (X.2.2.2.1.1 200)) (mm_A X) U H)
end
section
/-! ===== a method's walk over the picture ===== -/
/-- the locals hold lv -/
def mm_lh (X : mm_X) (ad : Nat → Nat) (ls : Array Slot) (nL : Nat) (lv : mm_L) : Prop := lv.length = nL ∧ ls.size = nL ∧ lv_wf ls ∧ ∀ (i : Nat) (v : Value), lv[i]? = some (some v) → ls[i]? = some (.val (mm_rv X ad v))
def mm_as (X : mm_X) (ad : Nat → Nat) (lv : mm_L) : List (Nat × Value) := (List.range lv.length).filterMap (fun i => match lv[i]? with
  | some (some v) => some (i, mm_rv X ad v)
  | _ => none)
theorem mm_as_in {X : mm_X} {ad : Nat → Nat} {lv : mm_L} {i : Nat} {w : Value} : (i, w) ∈ mm_as X ad lv ↔ ∃ v, lv[i]? = some (some v) ∧ w = mm_rv X ad v := by
  unfold mm_as
  rw [List.mem_filterMap]
  constructor
  · rintro ⟨j, -, hj⟩
    split at hj
    · rename_i v hv
      cases hj
      exact ⟨v, hv, rfl⟩
    · cases hj
  · rintro ⟨v, hv, rfl⟩
    refine ⟨i, List.mem_range.mpr (List.getElem?_eq_some_iff.mp hv).1, ?_⟩
    rw [hv]
theorem mm_lh.has {X : mm_X} {ad : Nat → Nat} {ls : Array Slot} {nL : Nat} {lv : mm_L} (h : mm_lh X ad ls nL lv) : lv_has ls nL (mm_as X ad lv) := by
  refine ⟨h.2.1, h.2.2.1, fun q hq => ?_⟩
  obtain ⟨v, hv, e⟩ := mm_as_in.mp (show (q.1, q.2) ∈ _ from hq)
  rw [e]
  exact h.2.2.2 _ _ hv
/-- no long ends at the place ahead -/
def mm_pr (lv : mm_L) : Nat → Bool
  | 0 => true
  | i + 1 => match lv[i]? with
    | some (some v) => v.category == 1
    | _ => true
theorem mm_pr_ne {X : mm_X} {ad : Nat → Nat} {lv : mm_L} {i j : Nat} {v : Value} (hp : mm_pr lv i = true) (hv : lv[j]? = some (some v)) : (j + 1 == i && (mm_rv X ad v).category == 2) = false := by
  rw [mm_rv_cat]
  cases i with
  | zero => simp
  | succ i =>
    by_cases e : j = i
    · subst e
      simp only [mm_pr, hv, beq_iff_eq] at hp
      simp [hp]
    · simp [e]
theorem mm_lh.st1 {X : mm_X} {ad : Nat → Nat} {ls ls' : Array Slot} {nL : Nat} {lv : mm_L} {i : Nat} {v : Value} (h : mm_lh X ad ls nL lv) (hp : mm_pr lv i = true) (h' : lv_has ls' nL ((i, mm_rv X ad v) :: (mm_as X ad lv).filter (fun q => !(q.1 == i) && !(q.1 + 1 == i && q.2.category == 2)))) : mm_lh X ad ls' nL (lv.set i (some v)) := by
  refine ⟨by rw [List.length_set]; exact h.1, h'.1, h'.2.1, fun j w hw => ?_⟩
  refine h'.2.2 (j, mm_rv X ad w) ?_
  by_cases e : j = i
  · subst e
    rw [List.getElem?_set_self (by have := (List.getElem?_eq_some_iff.mp hw).1; rwa [List.length_set] at this)] at hw
    cases hw
    exact List.mem_cons_self
  · rw [List.getElem?_set_ne (fun q => e q.symm)] at hw
    refine List.mem_cons_of_mem _ (List.mem_filter.mpr ⟨mm_as_in.mpr ⟨w, hw, rfl⟩, ?_⟩)
    simp only [mm_pr_ne (X := X) (ad := ad) hp hw]
    simp [e]
theorem mm_lh.st2 {X : mm_X} {ad : Nat → Nat} {ls ls' : Array Slot} {nL : Nat} {lv : mm_L} {i : Nat} {v : Value} (h : mm_lh X ad ls nL lv) (hp : mm_pr lv i = true) (h' : lv_has ls' nL ((i, mm_rv X ad v) :: (mm_as X ad lv).filter (fun q => !(q.1 == i) && (!(q.1 == i + 1) && !(q.1 + 1 == i && q.2.category == 2))))) : mm_lh X ad ls' nL ((lv.set i (some v)).set (i + 1) none) := by
  refine ⟨by rw [List.length_set, List.length_set]; exact h.1, h'.1, h'.2.1, fun j w hw => ?_⟩
  refine h'.2.2 (j, mm_rv X ad w) ?_
  by_cases e1 : j = i + 1
  · subst e1
    rw [List.getElem?_set_self (by have := (List.getElem?_eq_some_iff.mp hw).1; rwa [List.length_set] at this)] at hw
    cases hw
  · rw [List.getElem?_set_ne (fun q => e1 q.symm)] at hw
    by_cases e : j = i
    · subst e
      rw [List.getElem?_set_self (by have := (List.getElem?_eq_some_iff.mp hw).1; rwa [List.length_set] at this)] at hw
      cases hw
      exact List.mem_cons_self
    · rw [List.getElem?_set_ne (fun q => e q.symm)] at hw
      refine List.mem_cons_of_mem _ (List.mem_filter.mpr ⟨mm_as_in.mpr ⟨w, hw, rfl⟩, ?_⟩)
      simp only [mm_pr_ne (X := X) (ad := ad) hp hw]
      simp [e, e1]
/-- a method's locals at its entry -/
def mm_sp : List Value → mm_L
  | [] => []
  | v :: vs => match v.category with
    | 2 => some v :: none :: mm_sp vs
    | _ => some v :: mm_sp vs
def mm_in (as : List Value) (n : Nat) : mm_L := mm_sp as ++ List.replicate (n - (mm_sp as).length) none
theorem mm_sp_len {X : mm_X} {ad : Nat → Nat} (as : List Value) : (lg_sl (as.map (mm_rv X ad))).length = (mm_sp as).length := by
  induction as with
  | nil => rfl
  | cons v vs ih =>
    have e : lg_sl ((v :: vs).map (mm_rv X ad)) = (if (mm_rv X ad v).category = 2 then [.val (mm_rv X ad v), .second] else [.val (mm_rv X ad v)]) ++ lg_sl (vs.map (mm_rv X ad)) := rfl
    rw [e, List.length_append, ih, mm_rv_cat]
    rcases lv_cat v with h | h <;> simp [mm_sp, h] <;> omega
theorem mm_sp_in {X : mm_X} {ad : Nat → Nat} (as : List Value) : ∀ (b i : Nat) (v : Value), (mm_sp as)[i]? = some (some v) → (b + i, mm_rv X ad v) ∈ lv_args b (as.map (mm_rv X ad)) := by
  induction as with
  | nil => intro b i v h; simp [mm_sp] at h
  | cons w ws ih =>
    intro b i v h
    have e : lv_args b ((w :: ws).map (mm_rv X ad)) = (b, mm_rv X ad w) :: lv_args (if (mm_rv X ad w).category = 2 then b + 2 else b + 1) (ws.map (mm_rv X ad)) := rfl
    rw [e, mm_rv_cat]
    rcases lv_cat w with hc | hc
    · simp only [mm_sp, hc] at h
      rw [if_neg (by omega)]
      cases i with
      | zero => simp at h; subst h; simp
      | succ i =>
        have := ih (b + 1) i v (by simpa using h)
        rw [show b + 1 + i = b + (i + 1) by omega] at this
        exact List.mem_cons_of_mem _ this
    · simp only [mm_sp, hc] at h
      rw [if_pos hc]
      cases i with
      | zero => simp at h; subst h; simp
      | succ i =>
        cases i with
        | zero => simp at h
        | succ i =>
          have := ih (b + 2) i v (by simpa using h)
          rw [show b + 2 + i = b + (i + 1 + 1) by omega] at this
          exact List.mem_cons_of_mem _ this
theorem mm_entry {X : mm_X} {ad : Nat → Nat} (as : List Value) {n : Nat} (h : (mm_sp as).length ≤ n) : mm_lh X ad ((lg_sl (as.map (mm_rv X ad)) ++ List.replicate (n - (lg_sl (as.map (mm_rv X ad))).length) Slot.unset).toArray) n (mm_in as n) := by
  obtain ⟨h1, h2, h3⟩ := lv_entry (as.map (mm_rv X ad)) (n := n) (by rw [mm_sp_len]; exact h)
  refine ⟨by simp [mm_in]; omega, h1, h2, fun i v hv => ?_⟩
  unfold mm_in at hv
  by_cases hl : i < (mm_sp as).length
  · rw [List.getElem?_append_left hl] at hv
    have := h3 _ (mm_sp_in (X := X) (ad := ad) as 0 i v hv)
    simpa using this
  · rw [List.getElem?_append_right (by omega)] at hv
    have := List.mem_of_getElem? hv
    simp at this
def mm_C (p : Program) (s : State) (m : MethodId) (args : Array Value) (meth : Method) (c : Code) (M : mm_M) (X : mm_X) : Prop :=
  p.tables.exec = Jvm.exec ∧ c.code = M.2.1 ∧ c.maxLocals = M.2.2.1 ∧ meth.sig.returnType = M.2.2.2 ∧ meth.locks = false ∧ s.vm.findClass M.1.cls = some m.cls ∧ (∀ w ∈ mm_G, w.before args s = true) ∧ meth.name = M.1.name ∧ mm_T X s ∧ mm_O X s s.heap
def mm_R (d mc ms : Nat) : Room := { frames := d, cells := mc, slots := ms, locals := 41 * d + 32 }
/-- a method's end: its answer, the picture behind it, at addresses that go on the old ones -/
def mm_Q (X : mm_X) (ad0 : Nat → Nat) (n0 : Nat) (Q : Option Value → mm_Hp → Prop) : Array Value → State → Outcome → State → Prop := fun _ st o t =>
  (∃ (v : Option Value) (h : mm_Hp) (ad : Nat → Nat), o = .returned (v.map (mm_rv X ad)) ∧ Q v h ∧ mm_Rel X ad h t.heap ∧ (∀ k, k < n0 → ad k = ad0 k) ∧ n0 ≤ h.1.length) ∧ va_F (mm_A X) st t
/-- the walk from a state of the picture on: the method returns, and Q holds of its answer and the picture then -/
def mm_W (d : Nat) (M : mm_M) (mc ms : Nat) (Q : Option Value → mm_Hp → Prop) (nc ns : Nat) (σ : mm_S) : Prop :=
  ∀ (p : Program) (l : Launch) (e : Env) (s : State) (m : MethodId) (args : Array Value) (below : List Frame) (meth : Method) (c : Code) (X : mm_X) (ad0 : Nat → Nat) (n0 : Nat) (ad : Nat → Nat) (H : Heap) (locs : List Loc) (ls : Array Slot),
    mm_C p s m args meth c M X → (∀ k, k < n0 → ad k = ad0 k) → n0 ≤ σ.2.2.2.1.length → mm_Rel X ad σ.2.2.2 H → va_S (mm_A X) s.heap H locs → mm_lh X ad ls M.2.2.1 σ.2.1 →
    W p l e (mm_R d mc ms) s m args below meth c H locs nc ns (MQ below (mm_Q X ad0 n0 Q) args s mc ms (mm_A X)) (F0 m σ.1 ls (σ.2.2.1.map (mm_rv X ad)))
def mm_P (X : mm_X) (ad : Nat → Nat) (as : List Value) (h : mm_Hp) : Array Value → State → Prop := fun a U => a = (as.map (mm_rv X ad)).toArray ∧ mm_T X U ∧ mm_O X U U.heap ∧ mm_Rel X ad h U.heap
/-- a method's contract over the picture: from these arguments and this picture it returns, with Q -/
def mm_Ct (d : Nat) (M : mm_M) (as : List Value) (h : mm_Hp) (mc ms : Nat) (Q : Option Value → mm_Hp → Prop) : Prop :=
  ∀ (l : Launch) (X : mm_X) (ad : Nat → Nat), Met l M.1 (.code M.1 M.2.1 M.2.2.1 M.2.2.2 :: mm_G) (mm_R d mc ms) (mm_P X ad as h) (mm_Q X ad h.1.length Q) mc ms (mm_A X)
theorem mm_start {d : Nat} {M : mm_M} {as : List Value} {h : mm_Hp} {mc ms : Nat} {Q : Option Value → mm_Hp → Prop} (hp : plainName M.1.cls = true) (hl : (mm_sp as).length ≤ M.2.2.1) (k : mm_W d M mc ms Q 0 0 (0, mm_in as M.2.2.1, [], h)) : mm_Ct d M as h mc ms Q := by
  intro l X ad
  refine Met.ofW (cc := M.2.1) (maxL := M.2.2.1) (ret := M.2.2.2) hp rfl ?_
  intro p e s m args below meth c s₁ B hml hv
  obtain ⟨rfl, hT, hO, hR⟩ := hv
  have hts := atoms_spec (ws := .code M.1 M.2.1 M.2.2.1 M.2.2.2 :: mm_G) B.pre
  have hown : s.vm.findClass M.1.cls = some m.cls := findClass_of_methodNamed B.named
  rw [lg_entry_eq]
  exact k p l e s m _ below meth c X ad h.1.length ad s.heap [] _ ⟨B.exec, B.bytes, hml, B.returns, B.notSynchronized, hown, fun w hw => hts w (List.mem_cons_of_mem _ hw), (name_of_methodNamed B.named B.method).1, hT, hO⟩ (fun _ _ => rfl) (Nat.le_refl _) hR va_S.rf (mm_entry as hl)
end
section
/-! ===== straight code by evaluation ===== -/
def mm_all : List Prop → Prop
  | [] => True
  | [p] => p
  | p :: q :: ps => p ∧ mm_all (q :: ps)
theorem mm_all_app {a b : List Prop} (h : mm_all (a ++ b)) : mm_all a ∧ mm_all b := by
  induction a with
  | nil => exact ⟨trivial, h⟩
  | cons p ps ih =>
    cases ps with
    | nil =>
      cases b with
      | nil => exact ⟨h, trivial⟩
      | cons q b => exact h
    | cons q ps =>
      obtain ⟨h1, h2⟩ := h
      exact ⟨⟨h1, (ih h2).1⟩, (ih h2).2⟩
/-- a reference, or null -/
def mm_isr : Value → Bool
  | .ref _ => true
  | .retAddr _ => true
  | .float _ => true
  | .null => true
  | _ => false
theorem mm_isr_rv {X : mm_X} {ad : Nat → Nat} {v : Value} (h : mm_isr v = true) : (∃ a, mm_rv X ad v = .ref a) ∨ mm_rv X ad v = .null := by
  cases v <;> first | exact Or.inl ⟨_, rfl⟩ | exact Or.inr rfl | cases h
/-- instructions of the stack alone, one byte long -/
def mm_op (i : Instr) (st : List Value) : Option (List Prop × List Value) :=
  match i, st with
  | .iadd, .int y :: .int x :: r => some ([], .int (x + y) :: r)
  | .isub, .int y :: .int x :: r => some ([], .int (x - y) :: r)
  | .imul, .int y :: .int x :: r => some ([], .int (x * y) :: r)
  | .iand, .int y :: .int x :: r => some ([], .int (x &&& y) :: r)
  | .ior, .int y :: .int x :: r => some ([], .int (x ||| y) :: r)
  | .ixor, .int y :: .int x :: r => some ([], .int (x ^^^ y) :: r)
  | .idiv, .int y :: .int x :: r => some ([¬ y = 0], .int (x / y) :: r)
  | .irem, .int y :: .int x :: r => some ([¬ y = 0], .int (x - x / y * y) :: r)
  | .ineg, .int x :: r => some ([], .int (-x) :: r)
  | .ishl, .int y :: .int x :: r => some ([], .int (x <<< (y &&& 31)) :: r)
  | .ishr, .int y :: .int x :: r => some ([], .int (x >>> (y &&& 31)) :: r)
  | .iushr, .int y :: .int x :: r => some ([], .int ((x.toUInt32 >>> (y.toUInt32 &&& Int32.toUInt32 31)).toInt32) :: r)
  | .ladd, .long y :: .long x :: r => some ([], .long (x + y) :: r)
  | .lsub, .long y :: .long x :: r => some ([], .long (x - y) :: r)
  | .lmul, .long y :: .long x :: r => some ([], .long (x * y) :: r)
  | .ldiv, .long y :: .long x :: r => some ([¬ y = 0], .long (x / y) :: r)
  | .lrem, .long y :: .long x :: r => some ([¬ y = 0], .long (x - x / y * y) :: r)
  | .lcmp, .long y :: .long x :: r => some ([], .int (lg_cmp x y) :: r)
  | .i2l, .int x :: r => some ([], .long x.toInt64 :: r)
  | .l2i, .long x :: r => some ([], .int x.toInt32 :: r)
  | .i2b, .int x :: r => some ([], .int x.toInt8.toInt32 :: r)
  | .i2s, .int x :: r => some ([], .int x.toInt16.toInt32 :: r)
  | .i2c, .int x :: r => some ([], .int (x.toUInt32 % 65536).toInt32 :: r)
  | .dup, v :: r => match v.category with
    | 1 => some ([], v :: v :: r)
    | _ => none
  | .dup2, v :: w :: r => match v.category, w.category with
    | 1, 1 => some ([], v :: w :: v :: w :: r)
    | _, _ => none
  | .pop, v :: r => match v.category with
    | 1 => some ([], r)
    | _ => none
  | _, _ => none
section
variable {d : Nat} {M : mm_M} {mc ms : Nat} {Q : Option Value → mm_Hp → Prop} {nc ns pc : Nat} {lv : mm_L} {st : List Value} {h : mm_Hp}
theorem mm_op_ok {i : Instr} {cs : List Prop} {st' : List Value} (hx : mm_op i st = some (cs, st')) (hc : mm_all cs) (hd : decode M.2.1 pc = .ok (i, 1)) (k : mm_W d M mc ms Q nc ns (pc + 1, lv, st', h)) : mm_W d M mc ms Q nc ns (pc, lv, st, h) := by
  intro p l e s m args below meth c X ad0 n0 ad H locs ls C ha hn hR hS hl
  have k' := k p l e s m args below meth c X ad0 n0 ad H locs ls C ha hn hR hS hl
  unfold mm_op at hx
  split at hx
  · cases hx; exact lv_iadd C.1 C.2.1 hd k'
  · cases hx; exact lv_isub C.1 C.2.1 hd k'
  · cases hx; exact lv_imul C.1 C.2.1 hd k'
  · cases hx; exact lv_iand C.1 C.2.1 hd k'
  · cases hx; exact lv_ior C.1 C.2.1 hd k'
  · cases hx; exact lv_ixor C.1 C.2.1 hd k'
  · cases hx; exact lv_idiv C.1 C.2.1 hd hc k'
  · cases hx; exact lv_irem C.1 C.2.1 hd hc k'
  · cases hx; exact lv_ineg C.1 C.2.1 hd k'
  · cases hx; exact lv_ishl C.1 C.2.1 hd k'
  · cases hx; exact lv_ishr C.1 C.2.1 hd k'
  · cases hx; exact lv_iushr C.1 C.2.1 hd rfl k'
  · cases hx; exact lv_ladd C.1 C.2.1 hd k'
  · cases hx; exact lv_lsub C.1 C.2.1 hd k'
  · cases hx; exact lv_lmul C.1 C.2.1 hd k'
  · cases hx; exact lv_ldiv C.1 C.2.1 hd hc k'
  · cases hx; exact lv_lrem C.1 C.2.1 hd hc k'
  · cases hx; exact W.lcmp C.1 C.2.1 hd k'
  · cases hx; exact lv_i2l C.1 C.2.1 hd rfl k'
  · cases hx; exact lv_l2i C.1 C.2.1 hd rfl k'
  · cases hx; exact lv_i2b C.1 C.2.1 hd rfl k'
  · cases hx; exact lv_i2s C.1 C.2.1 hd rfl k'
  · cases hx; exact lv_i2c C.1 C.2.1 hd rfl k'
  · rename_i v r
    split at hx
    · rename_i hv
      cases hx; exact lv_dup C.1 C.2.1 hd ((mm_rv_cat v).trans hv) k'
    · cases hx
  · rename_i v w r
    split at hx
    · rename_i hv hw
      cases hx; exact lv_dup2_11 C.1 C.2.1 hd ((mm_rv_cat v).trans hv) ((mm_rv_cat w).trans hw) k'
    · cases hx
  · rename_i v r
    split at hx
    · rename_i hv
      cases hx; exact lv_pop C.1 C.2.1 hd ((mm_rv_cat v).trans hv) k'
    · cases hx
  · cases hx
/-- the locals' loads and stores -/
theorem mm_ldi {x : Int32} {i len : Nat} (hv : lv[i]? = some (some (.int x))) (hd : decode M.2.1 pc = .ok (.iload i, 2) ∧ len = 2 ∨ ∃ k : Fin 4, (k : Nat) = i ∧ decode M.2.1 pc = .ok (.iload_n k, 1) ∧ len = 1) (k : mm_W d M mc ms Q nc ns (pc + len, lv, .int x :: st, h)) : mm_W d M mc ms Q nc ns (pc, lv, st, h) := by
  intro p l e s m args below meth c X ad0 n0 ad H locs ls C ha hn hR hS hl
  have k' := k p l e s m args below meth c X ad0 n0 ad H locs ls C ha hn hR hS hl
  have hg := hl.2.2.2 _ _ hv
  rcases hd with ⟨h1, rfl⟩ | ⟨q, h0, h1, rfl⟩
  · exact lv_iload C.1 C.2.1 h1 hg k'
  · exact lv_iload_n C.1 C.2.1 h1 h0 hg k'
theorem mm_ldl {x : Int64} {i len : Nat} (hv : lv[i]? = some (some (.long x))) (hd : decode M.2.1 pc = .ok (.lload i, 2) ∧ len = 2 ∨ ∃ k : Fin 4, (k : Nat) = i ∧ decode M.2.1 pc = .ok (.lload_n k, 1) ∧ len = 1) (k : mm_W d M mc ms Q nc ns (pc + len, lv, .long x :: st, h)) : mm_W d M mc ms Q nc ns (pc, lv, st, h) := by
  intro p l e s m args below meth c X ad0 n0 ad H locs ls C ha hn hR hS hl
  have k' := k p l e s m args below meth c X ad0 n0 ad H locs ls C ha hn hR hS hl
  have hg := hl.2.2.2 _ _ hv
  rcases hd with ⟨h1, rfl⟩ | ⟨q, h0, h1, rfl⟩
  · exact lv_lload C.1 C.2.1 h1 hg k'
  · exact lv_lload_n C.1 C.2.1 h1 h0 hg k'
theorem mm_lda {v : Value} {i len : Nat} (hv : lv[i]? = some (some v)) (hr : mm_isr v = true) (hd : decode M.2.1 pc = .ok (.aload i, 2) ∧ len = 2 ∨ ∃ k : Fin 4, (k : Nat) = i ∧ decode M.2.1 pc = .ok (.aload_n k, 1) ∧ len = 1) (k : mm_W d M mc ms Q nc ns (pc + len, lv, v :: st, h)) : mm_W d M mc ms Q nc ns (pc, lv, st, h) := by
  intro p l e s m args below meth c X ad0 n0 ad H locs ls C ha hn hR hS hl
  have k' := k p l e s m args below meth c X ad0 n0 ad H locs ls C ha hn hR hS hl
  have hg := hl.2.2.2 _ _ hv
  simp only [List.map_cons] at k'
  rcases mm_isr_rv (X := X) (ad := ad) hr with ⟨a, ev⟩ | ev
  · rw [ev] at hg k'
    rcases hd with ⟨h1, rfl⟩ | ⟨q, h0, h1, rfl⟩
    · exact lv_aload C.1 C.2.1 h1 hg k'
    · exact lv_aload_n C.1 C.2.1 h1 h0 hg k'
  · rw [ev] at hg k'
    rcases hd with ⟨h1, rfl⟩ | ⟨q, h0, h1, rfl⟩
    · exact lv_aloadN C.1 C.2.1 h1 hg k'
    · exact lv_aload_nN C.1 C.2.1 h1 h0 hg k'
theorem mm_sti {x : Int32} {i len : Nat} (hp : mm_pr lv i = true) (hi : i < lv.length) (hd : decode M.2.1 pc = .ok (.istore i, 2) ∧ len = 2 ∨ ∃ k : Fin 4, (k : Nat) = i ∧ decode M.2.1 pc = .ok (.istore_n k, 1) ∧ len = 1) (k : mm_W d M mc ms Q nc ns (pc + len, lv.set i (some (.int x)), st, h)) : mm_W d M mc ms Q nc ns (pc, lv, .int x :: st, h) := by
  intro p l e s m args below meth c X ad0 n0 ad H locs ls C ha hn hR hS hl
  have hi' : i < M.2.2.1 := hl.1 ▸ hi
  rcases hd with ⟨h1, rfl⟩ | ⟨q, h0, h1, rfl⟩
  · exact lv_istore C.1 C.2.1 h1 hl.has hi' rfl (fun ls' hl' => k p l e s m args below meth c X ad0 n0 ad H locs ls' C ha hn hR hS (hl.st1 (v := .int x) hp hl'))
  · exact lv_istore_n C.1 C.2.1 h1 h0 hl.has hi' rfl (fun ls' hl' => k p l e s m args below meth c X ad0 n0 ad H locs ls' C ha hn hR hS (hl.st1 (v := .int x) hp hl'))
theorem mm_stl {x : Int64} {i len : Nat} (hp : mm_pr lv i = true) (hi : i + 1 < lv.length) (hd : decode M.2.1 pc = .ok (.lstore i, 2) ∧ len = 2 ∨ ∃ k : Fin 4, (k : Nat) = i ∧ decode M.2.1 pc = .ok (.lstore_n k, 1) ∧ len = 1) (k : mm_W d M mc ms Q nc ns (pc + len, (lv.set i (some (.long x))).set (i + 1) none, st, h)) : mm_W d M mc ms Q nc ns (pc, lv, .long x :: st, h) := by
  intro p l e s m args below meth c X ad0 n0 ad H locs ls C ha hn hR hS hl
  have hi' : i + 1 < M.2.2.1 := hl.1 ▸ hi
  rcases hd with ⟨h1, rfl⟩ | ⟨q, h0, h1, rfl⟩
  · exact lv_lstore C.1 C.2.1 h1 hl.has hi' rfl (fun ls' hl' => k p l e s m args below meth c X ad0 n0 ad H locs ls' C ha hn hR hS (hl.st2 (v := .long x) hp hl'))
  · exact lv_lstore_n C.1 C.2.1 h1 h0 hl.has hi' rfl (fun ls' hl' => k p l e s m args below meth c X ad0 n0 ad H locs ls' C ha hn hR hS (hl.st2 (v := .long x) hp hl'))
theorem mm_sta {v : Value} {i len : Nat} (hr : mm_isr v = true) (hp : mm_pr lv i = true) (hi : i < lv.length) (hd : decode M.2.1 pc = .ok (.astore i, 2) ∧ len = 2 ∨ ∃ k : Fin 4, (k : Nat) = i ∧ decode M.2.1 pc = .ok (.astore_n k, 1) ∧ len = 1) (k : mm_W d M mc ms Q nc ns (pc + len, lv.set i (some v), st, h)) : mm_W d M mc ms Q nc ns (pc, lv, v :: st, h) := by
  intro p l e s m args below meth c X ad0 n0 ad H locs ls C ha hn hR hS hl
  have hi' : i < M.2.2.1 := hl.1 ▸ hi
  have hs := fun ls' hl' => hl.st1 (ls' := ls') (v := v) (i := i) hp hl'
  simp only [List.map_cons]
  rcases mm_isr_rv (X := X) (ad := ad) hr with ⟨a, ev⟩ | ev
  · rw [ev] at hs ⊢
    rcases hd with ⟨h1, rfl⟩ | ⟨q, h0, h1, rfl⟩
    · exact lv_astore C.1 C.2.1 h1 hl.has hi' rfl (fun ls' hl' => k p l e s m args below meth c X ad0 n0 ad H locs ls' C ha hn hR hS (hs ls' hl'))
    · exact lv_astore_n C.1 C.2.1 h1 h0 hl.has hi' rfl (fun ls' hl' => k p l e s m args below meth c X ad0 n0 ad H locs ls' C ha hn hR hS (hs ls' hl'))
  · rw [ev] at hs ⊢
    rcases hd with ⟨h1, rfl⟩ | ⟨q, h0, h1, rfl⟩
    · exact lv_astoreN C.1 C.2.1 h1 hl.has hi' rfl (fun ls' hl' => k p l e s m args below meth c X ad0 n0 ad H locs ls' C ha hn hR hS (hs ls' hl'))
    · exact lv_astore_nN C.1 C.2.1 h1 h0 hl.has hi' rfl (fun ls' hl' => k p l e s m args below meth c X ad0 n0 ad H locs ls' C ha hn hR hS (hs ls' hl'))
theorem mm_inc {x v : Int32} {i : Nat} {n : Int} (hv : lv[i]? = some (some (.int x))) (hc : Int32.ofInt n = v) (hp : mm_pr lv i = true) (hd : decode M.2.1 pc = .ok (.iinc i n, 3)) (k : mm_W d M mc ms Q nc ns (pc + 3, lv.set i (some (.int (x + v))), st, h)) : mm_W d M mc ms Q nc ns (pc, lv, st, h) := by
  intro p l e s m args below meth c X ad0 n0 ad H locs ls C ha hn hR hS hl
  have hi' : i < M.2.2.1 := hl.1 ▸ (List.getElem?_eq_some_iff.mp hv).1
  obtain ⟨j, hj⟩ := List.getElem?_of_mem ((mm_as_in (X := X) (ad := ad)).mpr ⟨_, hv, rfl⟩)
  exact lv_iinc C.1 C.2.1 hd hl.has hj (by rw [hc]) hi' rfl (fun ls' hl' => k p l e s m args below meth c X ad0 n0 ad H locs ls' C ha hn hR hS (hl.st1 (v := .int (x + v)) hp hl'))
theorem mm_goto {off : Int} {tgt : Nat} (hd : decode M.2.1 pc = .ok (.goto off, 3)) (ht : (pc : Int) + off = (tgt : Int)) (k : mm_W d M mc ms Q nc ns (tgt, lv, st, h)) : mm_W d M mc ms Q nc ns (pc, lv, st, h) := by
  intro p l e s m args below meth c X ad0 n0 ad H locs ls C ha hn hR hS hl
  exact lv_goto C.1 C.2.1 hd ht (k p l e s m args below meth c X ad0 n0 ad H locs ls C ha hn hR hS hl)
end
end
section
/-! ===== fields and arrays over the picture ===== -/
def mm_ty : Nat → Nat → FieldType
  | 0 => tyX0
  | 1 => tyX1
  | 2 => tyX2
  | 3 => tyX3
  | 4 => tyX4
  | 5 => tyX5
  | 6 => tyX6
  | 7 => tyX7
  | 8 => tyX8
  | 9 => tyX9
  | 10 => tyX10
  | 11 => tyX11
  | _ => tyX12
theorem mm_win {ws : List Cond} (h : ws.all (fun w => decide (w ∈ lw_tbl) && goodWord w) = true) : ∀ w ∈ ws, w ∈ mm_G := by
  intro w hw
  have h1 := List.all_eq_true.mp h w hw
  simp only [Bool.and_eq_true, decide_eq_true_eq] at h1
  exact List.mem_filter.mpr h1
theorem mm_wat {w : Cond} (i : Nat) (h : lw_tbl[i]? = some w) (hg : goodWord w = true) : w ∈ mm_G := List.mem_filter.mpr ⟨List.mem_of_getElem? h, hg⟩
theorem mm_u0 : ∀ w ∈ u_ws RX0 TX0 11, w ∈ mm_G := mm_win (by decide +kernel)
theorem mm_u6 : ∀ w ∈ u_ws RX6 TX6 7, w ∈ mm_G := mm_win (by decide +kernel)
theorem mm_u7 : ∀ w ∈ u_ws RX7 TX7 7, w ∈ mm_G := mm_win (by decide +kernel)
theorem mm_u9 : ∀ w ∈ u_ws RX9 TX9 7, w ∈ mm_G := mm_win (by decide +kernel)
theorem mm_u10 : ∀ w ∈ u_ws RX10 TX10 3, w ∈ mm_G := mm_win (by decide +kernel)
theorem mm_u11 : ∀ w ∈ u_ws RX11 TX11 10, w ∈ mm_G := mm_win (by decide +kernel)
theorem mm_u12 : ∀ w ∈ u_ws RX12 TX12 49, w ∈ mm_G := mm_win (by decide +kernel)
theorem mm_cls {ci : Nat} {q : vw_C} (hc : vwCl[ci]? = some q) : (∀ k, k < q.2.2 → parseFieldDescriptor (q.2.1 k).2.2.1 = some (mm_ty ci k)) ∧ (∀ a, a < q.2.2 → ∀ b, b < q.2.2 → a ≠ b → (q.2.1 a).2.1 ≠ (q.2.1 b).2.1) ∧ (∀ w ∈ u_ws q.1 q.2.1 q.2.2, w ∈ mm_G) := by
  match ci, hc with
  | 0, hc => cases hc; exact ⟨tyX0_ok, nmX0, mm_u0⟩
  | 1, hc => cases hc; exact ⟨tyX1_ok, nmX1, fun w hw => by cases hw⟩
  | 2, hc => cases hc; exact ⟨tyX2_ok, nmX2, fun w hw => by cases hw⟩
  | 3, hc => cases hc; exact ⟨tyX3_ok, nmX3, fun w hw => by cases hw⟩
  | 4, hc => cases hc; exact ⟨tyX4_ok, nmX4, fun w hw => by cases hw⟩
  | 5, hc => cases hc; exact ⟨tyX5_ok, nmX5, fun w hw => by cases hw⟩
  | 6, hc => cases hc; exact ⟨tyX6_ok, nmX6, mm_u6⟩
  | 7, hc => cases hc; exact ⟨tyX7_ok, nmX7, mm_u7⟩
  | 8, hc => cases hc; exact ⟨tyX8_ok, nmX8, fun w hw => by cases hw⟩
  | 9, hc => cases hc; exact ⟨tyX9_ok, nmX9, mm_u9⟩
  | 10, hc => cases hc; exact ⟨tyX10_ok, nmX10, mm_u10⟩
  | 11, hc => cases hc; exact ⟨tyX11_ok, nmX11, mm_u11⟩
  | 12, hc => cases hc; exact ⟨tyX12_ok, nmX12, mm_u12⟩
  | n + 13, hc => cases hc
end
section
/-! ===== fields and arrays over the picture ===== -/
/-- a field's link: pool place idx of class own is field y of class number ci -/
def mm_lk (own : String) (idx ci y : Nat) : Prop := ∃ q : vw_C, vwCl[ci]? = some q ∧ y < q.2.2 ∧ Cond.fieldLink own idx q.1 (q.2.1 y).2.1 (q.2.1 y).2.2.1 ∈ mm_G ∧ (q.2.1 y).1 = q.1
theorem mm_set_self {α : Type} {l : List α} {k : Nat} {c : α} (h : l[k]? = some c) : l = l.set k c := by
  apply List.ext_getElem?
  intro j
  by_cases e : j = k
  · subst e
    rw [List.getElem?_set_self (List.getElem?_eq_some_iff.mp h).1, h]
  · rw [List.getElem?_set_ne (fun q => e q.symm)]
theorem mm_lay_len {X : mm_X} {ad : Nat → Nat} {h : mm_Hp} : (mm_lay X ad h).length = h.1.length := List.length_mapIdx
theorem mm_lay_set {X : mm_X} {ad : Nat → Nat} {h h' : mm_Hp} {k : Nat} {c c' : mm_Sh} {e : va_E} (hk : h.1[k]? = some c) (hl : h'.1 = h.1.set k c') (ho : ∀ j, j ≠ k → ∀ c, mm_cv X ad h' j c = mm_cv X ad h j c) (he : mm_cv X ad h' k c' = e) : mm_lay X ad h' = (mm_lay X ad h).set k (ad k, e) := by
  have hlt : k < h.1.length := (List.getElem?_eq_some_iff.mp hk).1
  have hlt2 : k < (mm_lay X ad h).length := by rw [mm_lay_len]; exact hlt
  refine List.ext_getElem? (fun j => ?_)
  have h1 := mm_lay_get (X := X) (ad := ad) (h := h') j
  have h2 := mm_lay_get (X := X) (ad := ad) (h := h) j
  rw [h1]
  by_cases ej : j = k
  · have h3 : h'.1[j]? = some c' := by rw [hl, ej]; exact List.getElem?_set_self hlt
    have h4 : ((mm_lay X ad h).set k (ad k, e))[j]? = some (ad k, e) := by rw [ej]; exact List.getElem?_set_self hlt2
    rw [h3, h4, ← he, ej]
    rfl
  · have h3 : h'.1[j]? = h.1[j]? := by rw [hl]; exact List.getElem?_set_ne (fun q => ej q.symm)
    have h4 : ((mm_lay X ad h).set k (ad k, e))[j]? = (mm_lay X ad h)[j]? := List.getElem?_set_ne (fun q => ej q.symm)
    rw [h3, h4, h2]
    have h5 := ho j ej
    generalize h.1[j]? = z
    cases z with
    | none => rw [Option.map_none, Option.map_none]
    | some c => rw [Option.map_some, Option.map_some, h5 c]
theorem mm_up_ne {g : Nat → Nat → Int32} {k j y : Nat} {a : Int32} (h : j ≠ k) : mm_up g k y a j = g j := by
  funext i
  simp [mm_up, beq_false_of_ne h]
theorem mm_up_eq (g : Nat → Nat → Int32) (k y : Nat) (a : Int32) : mm_up g k y a k = upd (g k) y a := by
  funext i
  by_cases e : i = y
  · subst e; simp [mm_up, upd]
  · simp [mm_up, upd, e, beq_false_of_ne e]
theorem mm_ul_ne {g : Nat → Nat → Int64} {k j y : Nat} {a : Int64} (h : j ≠ k) : mm_ul g k y a j = g j := by
  funext i
  simp [mm_ul, beq_false_of_ne h]
theorem mm_cv_up {X : mm_X} {ad : Nat → Nat} {h : mm_Hp} {k y j : Nat} {a : Int32} (hj : j ≠ k) (c : mm_Sh) : mm_cv X ad (h.1, mm_up h.2.1 k y a, h.2.2) j c = mm_cv X ad h j c := by
  cases c with
  | inl x => simp only [mm_cv, mm_up_ne hj]
  | inr o =>
    simp only [mm_cv]
    congr 3
    funext i c
    match c with
    | 0 => simp only [mm_cF, mm_up_ne hj]
    | 1 => rfl
    | 2 => rfl
    | c + 3 => rfl
theorem mm_cv_ul {X : mm_X} {ad : Nat → Nat} {h : mm_Hp} {k y j : Nat} {a : Int64} (hj : j ≠ k) (c : mm_Sh) : mm_cv X ad (h.1, h.2.1, mm_ul h.2.2.1 k y a, h.2.2.2) j c = mm_cv X ad h j c := by
  cases c with
  | inl x => rfl
  | inr o =>
    simp only [mm_cv]
    congr 3
    funext i c
    match c with
    | 0 => rfl
    | 1 => simp only [mm_cF, mm_ul_ne hj]
    | 2 => rfl
    | c + 3 => rfl
theorem mm_fs_set {ad : Nat → Nat} {h h' : mm_Hp} {k y : Nat} {fs fs' : List Nat} {v : Value} {c c' : Nat} (hy : fs[y]? = some c) (hf : fs' = fs.set y c') (hv : mm_cF ad h' k y c' = v) (ho : ∀ i, i ≠ y → ∀ c, mm_cF ad h' k i c = mm_cF ad h k i c) : fs'.mapIdx (fun j c => mm_cF ad h' k j c) = (fs.mapIdx (fun j c => mm_cF ad h k j c)).set y v := by
  have hlt : y < fs.length := (List.getElem?_eq_some_iff.mp hy).1
  subst hf
  apply List.ext_getElem?
  intro j
  by_cases e : j = y
  · subst e
    rw [List.getElem?_mapIdx, List.getElem?_set_self hlt, List.getElem?_set_self (by rw [List.length_mapIdx]; exact hlt), ← hv]
    rfl
  · rw [List.getElem?_mapIdx, List.getElem?_set_ne (fun q => e q.symm), List.getElem?_set_ne (fun q => e q.symm), List.getElem?_mapIdx]
    cases fs[j]? with
    | none => rfl
    | some c => simp [ho j e c]
section
variable {d : Nat} {M : mm_M} {mc ms : Nat} {Q : Option Value → mm_Hp → Prop} {nc ns pc : Nat} {lv : mm_L} {st : List Value} {h : mm_Hp}
theorem mm_get {k ci y idx cd : Nat} {fs : List Nat} (hlk : mm_lk M.1.cls idx ci y) (hs : h.1[k]? = some (.inr (ci, fs))) (hf : fs[y]? = some cd) (hd : decode M.2.1 pc = .ok (.getfield idx, 3)) (kk : mm_W d M mc ms Q nc ns (pc + 3, lv, mm_vF h k y cd :: st, h)) : mm_W d M mc ms Q nc ns (pc, lv, .ref k :: st, h) := by
  intro p l e s m args below meth c X ad0 n0 ad H locs ls C ha hn hR hS hl
  have k' := kk p l e s m args below meth c X ad0 n0 ad H locs ls C ha hn hR hS hl
  obtain ⟨hx, hb, hml, hr, hlo, hown, hts, hnm, hT, hO⟩ := C
  obtain ⟨q, hc, hy, hl1, hl2⟩ := hlk
  obtain ⟨hty, hnm2, hin⟩ := mm_cls hc
  simp only [List.map_cons, mm_rv_vF] at k'
  refine va_get (D := X.1) (cl := vwCl) (ci := ci) (C := q.1) (T := q.2.1) (N := q.2.2) hx hb hts hin hown hT.1 hR.1 k (mm_lay_at hs) hc y hy (hts _ hl1) (fun x hx => by rw [hl2] at hx; exact hx) (v := mm_cF ad h k y cd) ?_ hd k'
  rw [List.getElem?_mapIdx, hf]
  rfl
/-- a value that goes into a field, and what the picture is then -/
def mm_pf (h : mm_Hp) (k y ci : Nat) (fs : List Nat) (t : FieldType) (v : Value) (c : Nat) : Option (List Prop × mm_Hp) :=
  match t, v, c with
  | .int, .int a, 0 => some ([], h.1, mm_up h.2.1 k y a, h.2.2)
  | .boolean, .int a, 0 => some ([a = 0 ∨ a = 1], h.1, mm_up h.2.1 k y a, h.2.2)
  | .long, .long a, 1 => some ([], h.1, h.2.1, mm_ul h.2.2.1 k y a, h.2.2.2)
  | .object _, .ref q, c + 2 => some ([], h.1.set k (.inr (ci, fs.set y (q + 3))), h.2)
  | .array _, .ref q, c + 2 => some ([], h.1.set k (.inr (ci, fs.set y (q + 3))), h.2)
  | _, _, _ => none
theorem mm_cF_up {ad : Nat → Nat} {h : mm_Hp} {k y i : Nat} {a : Int32} (hi : i ≠ y) (c : Nat) : mm_cF ad (h.1, mm_up h.2.1 k y a, h.2.2) k i c = mm_cF ad h k i c := by
  match c with
  | 0 => simp [mm_cF, mm_up, beq_false_of_ne hi]
  | 1 => rfl
  | 2 => rfl
  | c + 3 => rfl
theorem mm_cF_ul {ad : Nat → Nat} {h : mm_Hp} {k y i : Nat} {a : Int64} (hi : i ≠ y) (c : Nat) : mm_cF ad (h.1, h.2.1, mm_ul h.2.2.1 k y a, h.2.2.2) k i c = mm_cF ad h k i c := by
  match c with
  | 0 => rfl
  | 1 => simp [mm_cF, mm_ul, beq_false_of_ne hi]
  | 2 => rfl
  | c + 3 => rfl
theorem mm_pf_ok {X : mm_X} {ad : Nat → Nat} {h h' : mm_Hp} {k y ci : Nat} {fs : List Nat} {t : FieldType} {v : Value} {c : Nat} {cs : List Prop} (hs : h.1[k]? = some (.inr (ci, fs))) (hf : fs[y]? = some c) (hx : mm_pf h k y ci fs t v c = some (cs, h')) (hc : mm_all cs) :
    narrow t (mm_rv X ad v) = mm_rv X ad v ∧ fits t (mm_rv X ad v) = true ∧ mm_lay X ad h' = (mm_lay X ad h).set k (ad k, .inr (ci, (fs.mapIdx (fun j c => mm_cF ad h k j c)).set y (mm_rv X ad v))) ∧ h'.1.length = h.1.length ∧ h'.2.2.2 = h.2.2.2 := by
  unfold mm_pf at hx
  split at hx
  · rename_i a
    cases hx
    refine ⟨rfl, rfl, mm_lay_set hs (mm_set_self hs) (fun j hj c => mm_cv_up hj c) ?_, rfl, rfl⟩
    simp only [mm_cv]
    rw [mm_fs_set (v := mm_rv X ad (.int a)) hf (mm_set_self hf) ?_ (fun i hi c => mm_cF_up hi c)]
    simp [mm_cF, mm_up, mm_rv]
  · rename_i a
    cases hx
    have hn : narrow .boolean (.int a) = .int a ∧ fits .boolean (.int a) = true := by
      rcases hc with rfl | rfl <;> exact ⟨by decide +kernel, by decide +kernel⟩
    refine ⟨hn.1, hn.2, mm_lay_set hs (mm_set_self hs) (fun j hj c => mm_cv_up hj c) ?_, rfl, rfl⟩
    simp only [mm_cv]
    rw [mm_fs_set (v := mm_rv X ad (.int a)) hf (mm_set_self hf) ?_ (fun i hi c => mm_cF_up hi c)]
    simp [mm_cF, mm_up, mm_rv]
  · rename_i a
    cases hx
    refine ⟨rfl, rfl, mm_lay_set hs (mm_set_self hs) (fun j hj c => mm_cv_ul hj c) ?_, rfl, rfl⟩
    simp only [mm_cv]
    rw [mm_fs_set (v := mm_rv X ad (.long a)) hf (mm_set_self hf) ?_ (fun i hi c => mm_cF_ul hi c)]
    simp [mm_cF, mm_ul, mm_rv]
  · rename_i q c
    cases hx
    refine ⟨rfl, rfl, mm_lay_set hs rfl (fun j hj c => by cases c <;> rfl) ?_, by rw [List.length_set], rfl⟩
    simp only [mm_cv]
    rw [mm_fs_set (h := h) (v := mm_rv X ad (.ref q)) hf rfl rfl (fun i hi c => by
      match c with
      | 0 => rfl
      | 1 => rfl
      | 2 => rfl
      | c + 3 => rfl)]
  · rename_i q c
    cases hx
    refine ⟨rfl, rfl, mm_lay_set hs rfl (fun j hj c => by cases c <;> rfl) ?_, by rw [List.length_set], rfl⟩
    simp only [mm_cv]
    rw [mm_fs_set (h := h) (v := mm_rv X ad (.ref q)) hf rfl rfl (fun i hi c => by
      match c with
      | 0 => rfl
      | 1 => rfl
      | 2 => rfl
      | c + 3 => rfl)]
  · cases hx
theorem mm_put {k ci y idx cd : Nat} {fs : List Nat} {v : Value} {cs : List Prop} {h' : mm_Hp} (hlk : mm_lk M.1.cls idx ci y) (hfin : ∀ q, vwCl[ci]? = some q → (q.2.1 y).2.2.2 = true → M.1.name = "<init>" ∧ q.1 = M.1.cls) (hs : h.1[k]? = some (.inr (ci, fs))) (hf : fs[y]? = some cd) (hx : mm_pf h k y ci fs (mm_ty ci y) v cd = some (cs, h')) (hcs : mm_all cs) (hd : decode M.2.1 pc = .ok (.putfield idx, 3)) (kk : mm_W d M mc ms Q nc ns (pc + 3, lv, st, h')) : mm_W d M mc ms Q nc ns (pc, lv, v :: .ref k :: st, h) := by
  intro p l e s m args below meth c X ad0 n0 ad H locs ls C ha hn hR hS hl
  have C' := C
  obtain ⟨hx0, hb, hml, hr, hlo, hown, hts, hnm, hT, hO⟩ := C'
  obtain ⟨q, hc, hy, hl1, hl2⟩ := hlk
  obtain ⟨hty, hnm2, hin⟩ := mm_cls hc
  obtain ⟨e1, e2, e3, e4, e5⟩ := mm_pf_ok (X := X) (ad := ad) hs hf hx hcs
  have hlen : y < (fs.mapIdx (fun j c => mm_cF ad h k j c)).length := by rw [List.length_mapIdx]; exact (List.getElem?_eq_some_iff.mp hf).1
  by_cases hfi : (q.2.1 y).2.2.2 = true
  · obtain ⟨hi1, hi2⟩ := hfin q hc hfi
    refine va_putF (D := X.1) (cl := vwCl) (ci := ci) (C := q.1) (T := q.2.1) (N := q.2.2) hx0 hb hts hin (mm_ty ci) hty hnm2 hown hT.1 hR.1 hR.2.1 hS k (mm_lay_at hs) hc y hy (hts _ hl1) (fun x hx => by rw [hl2] at hx; exact hx) hfi (hnm.trans hi1) (hl2.trans hi2) (hty y hy) e1 e2 hlen hd (fun H1 locs1 hP1 hD1 hS1 => ?_)
    exact kk p l e s m args below meth c X ad0 n0 ad H1 locs1 ls C ha (by rw [show (pc + 3, lv, st, h').2.2.2.1.length = h.1.length from e4]; exact hn) ⟨by rw [e3]; exact hP1, by rw [e3]; exact hD1, e5.trans hR.2.2⟩ hS1 hl
  · refine va_put (D := X.1) (cl := vwCl) (ci := ci) (C := q.1) (T := q.2.1) (N := q.2.2) hx0 hb hts hin (mm_ty ci) hty hnm2 hown hT.1 hR.1 hR.2.1 hS k (mm_lay_at hs) hc y hy (hts _ hl1) (fun x hx => by rw [hl2] at hx; exact hx) (by simpa using hfi) (hty y hy) e1 e2 hlen hd (fun H1 locs1 hP1 hD1 hS1 => ?_)
    exact kk p l e s m args below meth c X ad0 n0 ad H1 locs1 ls C ha (by rw [show (pc + 3, lv, st, h').2.2.2.1.length = h.1.length from e4]; exact hn) ⟨by rw [e3]; exact hP1, by rw [e3]; exact hD1, e5.trans hR.2.2⟩ hS1 hl
end
end
section
/-! ===== arrays over the picture ===== -/
section
variable {d : Nat} {M : mm_M} {mc ms : Nat} {Q : Option Value → mm_Hp → Prop} {nc ns pc : Nat} {lv : mm_L} {st : List Value} {h : mm_Hp}
theorem mm_iald {k n : Nat} {i : Int32} (hs : h.1[k]? = some (.inl (0, n))) (hi : vp_in i n) (hd : decode M.2.1 pc = .ok (.iaload, 1)) (kk : mm_W d M mc ms Q nc ns (pc + 1, lv, .int (h.2.1 k i.toNatClampNeg) :: st, h)) : mm_W d M mc ms Q nc ns (pc, lv, .int i :: .ref k :: st, h) := by
  intro p l e s m args below meth c X ad0 n0 ad H locs ls C ha hn hR hS hl
  have k' := kk p l e s m args below meth c X ad0 n0 ad H locs ls C ha hn hR hS hl
  obtain ⟨hx, hb, hml, hr, hlo, hown, hts, hnm, hT, hO⟩ := C
  exact va_iald (D := X.1) (cl := vwCl) hx hb hT.1 hR.1 k 0 (mm_lay_at hs) rfl hi hd k'
theorem mm_sald {u : UInt32} {i : Int32} (hi : vp_in i h.2.2.2.1) (hd : decode M.2.1 pc = .ok (.iaload, 1)) (kk : mm_W d M mc ms Q nc ns (pc + 1, lv, .int (h.2.2.2.2 i.toNatClampNeg) :: st, h)) : mm_W d M mc ms Q nc ns (pc, lv, .int i :: .float u :: st, h) := by
  intro p l e s m args below meth c X ad0 n0 ad H locs ls C ha hn hR hS hl
  have k' := kk p l e s m args below meth c X ad0 n0 ad H locs ls C ha hn hR hS hl
  obtain ⟨hx, hb, hml, hr, hlo, hown, hts, hnm, hT, hO⟩ := C
  have e1 : h.2.2.2 = X.2.2.2.2.2 := hR.2.2
  have hi : vp_in i h.2.2.2.1 := hi
  simp only [List.map_cons, mm_rv] at k' ⊢
  rw [e1] at hi
  rw [show (pc, lv, Value.int i :: Value.float u :: st, h).2.2.2.2.2.2.2 = X.2.2.2.2.2.2 from congrArg Prod.snd e1] at k'
  exact va_sld hx hb hO.2.2.1 (Nat.lt_of_lt_of_le hO.2.2.2.1 hO.2.2.2.2.1) (Nat.not_le.mpr hO.2.2.2.1) hS hi hd k'
theorem mm_slen {u : UInt32} (hd : decode M.2.1 pc = .ok (.arraylength, 1)) (kk : mm_W d M mc ms Q nc ns (pc + 1, lv, .int (nI h.2.2.2.1) :: st, h)) : mm_W d M mc ms Q nc ns (pc, lv, .float u :: st, h) := by
  intro p l e s m args below meth c X ad0 n0 ad H locs ls C ha hn hR hS hl
  have k' := kk p l e s m args below meth c X ad0 n0 ad H locs ls C ha hn hR hS hl
  obtain ⟨hx, hb, hml, hr, hlo, hown, hts, hnm, hT, hO⟩ := C
  have e1 : h.2.2.2 = X.2.2.2.2.2 := hR.2.2
  simp only [List.map_cons, mm_rv] at k' ⊢
  rw [show (pc, lv, Value.float u :: st, h).2.2.2.2.2.2.1 = X.2.2.2.2.2.1 from congrArg Prod.fst e1] at k'
  exact va_slen hx hb hO.2.2.1 (Nat.lt_of_lt_of_le hO.2.2.2.1 hO.2.2.2.2.1) (Nat.not_le.mpr hO.2.2.2.1) hS hd k'
theorem mm_zald {k n : Nat} {i : Int32} (hs : h.1[k]? = some (.inl (1, n))) (hi : vp_in i n) (hd : decode M.2.1 pc = .ok (.baload, 1)) (kk : mm_W d M mc ms Q nc ns (pc + 1, lv, .int (h.2.1 k i.toNatClampNeg) :: st, h)) : mm_W d M mc ms Q nc ns (pc, lv, .int i :: .ref k :: st, h) := by
  intro p l e s m args below meth c X ad0 n0 ad H locs ls C ha hn hR hS hl
  have k' := kk p l e s m args below meth c X ad0 n0 ad H locs ls C ha hn hR hS hl
  obtain ⟨hx, hb, hml, hr, hlo, hown, hts, hnm, hT, hO⟩ := C
  exact va_zald (D := X.1) (cl := vwCl) hx hb hT.1 hR.1 k 1 (mm_lay_at hs) rfl hi hd k'
theorem mm_ialn {k t n : Nat} (ht : t < 5) (hs : h.1[k]? = some (.inl (t, n))) (hd : decode M.2.1 pc = .ok (.arraylength, 1)) (kk : mm_W d M mc ms Q nc ns (pc + 1, lv, .int (nI n) :: st, h)) : mm_W d M mc ms Q nc ns (pc, lv, .ref k :: st, h) := by
  intro p l e s m args below meth c X ad0 n0 ad H locs ls C ha hn hR hS hl
  have k' := kk p l e s m args below meth c X ad0 n0 ad H locs ls C ha hn hR hS hl
  obtain ⟨hx, hb, hml, hr, hlo, hown, hts, hnm, hT, hO⟩ := C
  match t, ht, hs with
  | 0, _, hs => exact va_alen (D := X.1) (cl := vwCl) hx hb hT.1 hR.1 k 0 (mm_lay_at hs) rfl rfl hd k'
  | 1, _, hs => exact va_alen (D := X.1) (cl := vwCl) hx hb hT.1 hR.1 k 1 (mm_lay_at hs) rfl rfl hd k'
  | 2, _, hs => exact va_alen (D := X.1) (cl := vwCl) hx hb hT.1 hR.1 k 2 (mm_lay_at hs) rfl rfl hd k'
  | 3, _, hs => exact va_alen (D := X.1) (cl := vwCl) hx hb hT.1 hR.1 k 3 (mm_lay_at hs) rfl rfl hd k'
  | 4, _, hs => exact va_alen (D := X.1) (cl := vwCl) hx hb hT.1 hR.1 k 4 (mm_lay_at hs) rfl rfl hd k'
theorem mm_lay_ia {X : mm_X} {ad : Nat → Nat} {k t n j : Nat} {a : Int32} (ht : t < 2) (hs : h.1[k]? = some (.inl (t, n))) : mm_lay X ad (h.1, mm_up h.2.1 k j a, h.2.2) = (mm_lay X ad h).set k (ad k, .inl (X.2.1 t, n, .inl (upd (h.2.1 k) j a))) := by
  refine mm_lay_set hs (mm_set_self hs) (fun j hj c => mm_cv_up hj c) ?_
  simp only [mm_cv, mm_up_eq, if_pos ht]
theorem mm_iast {k n : Nat} {i a : Int32} (hs : h.1[k]? = some (.inl (0, n))) (hi : vp_in i n) (hd : decode M.2.1 pc = .ok (.iastore, 1)) (kk : mm_W d M mc ms Q nc ns (pc + 1, lv, st, (h.1, mm_up h.2.1 k i.toNatClampNeg a, h.2.2))) : mm_W d M mc ms Q nc ns (pc, lv, .int a :: .int i :: .ref k :: st, h) := by
  intro p l e s m args below meth c X ad0 n0 ad H locs ls C ha hn hR hS hl
  have C' := C
  obtain ⟨hx, hb, hml, hr, hlo, hown, hts, hnm, hT, hO⟩ := C'
  refine va_iast (D := X.1) (cl := vwCl) hx hb hT.1 hR.1 hR.2.1 hS k 0 (mm_lay_at hs) rfl hi hd (fun H1 locs1 hP1 hD1 hS1 => ?_)
  have e3 := mm_lay_ia (X := X) (ad := ad) (j := i.toNatClampNeg) (a := a) (by decide) hs
  exact kk p l e s m args below meth c X ad0 n0 ad H1 locs1 ls C ha hn ⟨by rw [e3]; exact hP1, by rw [e3]; exact hD1, hR.2.2⟩ hS1 hl
theorem mm_zast {k n : Nat} {i a : Int32} (hs : h.1[k]? = some (.inl (1, n))) (hi : vp_in i n) (hz : vp_nar .boolean a = a) (hd : decode M.2.1 pc = .ok (.bastore, 1)) (kk : mm_W d M mc ms Q nc ns (pc + 1, lv, st, (h.1, mm_up h.2.1 k i.toNatClampNeg a, h.2.2))) : mm_W d M mc ms Q nc ns (pc, lv, .int a :: .int i :: .ref k :: st, h) := by
  intro p l e s m args below meth c X ad0 n0 ad H locs ls C ha hn hR hS hl
  have C' := C
  obtain ⟨hx, hb, hml, hr, hlo, hown, hts, hnm, hT, hO⟩ := C'
  refine va_zast (D := X.1) (cl := vwCl) hx hb hT.1 hR.1 hR.2.1 hS k 1 (mm_lay_at hs) rfl hi hd (fun H1 locs1 hP1 hD1 hS1 => ?_)
  rw [hz] at hP1 hD1
  have e3 := mm_lay_ia (X := X) (ad := ad) (j := i.toNatClampNeg) (a := a) (by decide) hs
  exact kk p l e s m args below meth c X ad0 n0 ad H1 locs1 ls C ha hn ⟨by rw [e3]; exact hP1, by rw [e3]; exact hD1, hR.2.2⟩ hS1 hl
/-- a place of an array of references -/
theorem mm_aald {k t n : Nat} {i : Int32} {v : Value} (ht : t = 2 ∨ t = 3 ∨ t = 4) (hs : h.1[k]? = some (.inl (t, n))) (hi : vp_in i n) (hv : mm_rf (h.2.1 k i.toNatClampNeg) = v) (hd : decode M.2.1 pc = .ok (.aaload, 1)) (kk : mm_W d M mc ms Q nc ns (pc + 1, lv, v :: st, h)) : mm_W d M mc ms Q nc ns (pc, lv, .int i :: .ref k :: st, h) := by
  intro p l e s m args below meth c X ad0 n0 ad H locs ls C ha hn hR hS hl
  have k' := kk p l e s m args below meth c X ad0 n0 ad H locs ls C ha hn hR hS hl
  subst hv
  obtain ⟨hx, hb, hml, hr, hlo, hown, hts, hnm, hT, hO⟩ := C
  simp only [List.map_cons, mm_rv_rf] at k'
  rcases ht with rfl | rfl | rfl
  · exact va_aldq (D := X.1) (cl := vwCl) hx hb hT.1 hR.1 k 2 (mm_lay_at hs) rfl hi hd k'
  · exact va_aldq (D := X.1) (cl := vwCl) hx hb hT.1 hR.1 k 3 (mm_lay_at hs) rfl hi hd k'
  · have hlt : i.toNatClampNeg < n := Nat.not_le.mp fun q => hi (Or.inr q)
    exact W.aald (v := va_rf (mm_rd ad (h.2.1 k i.toNatClampNeg))) (ty := .array .int) hx hb (hR.1 k _ (mm_lay_at hs)) ((hT.1.2 4 _ rfl).1 n (fun j => va_rf (mm_rd ad (h.2.1 k j)))) rfl (fun q => by cases q) (by show ¬ (i < 0 ∨ (arrV _ _ _).slots.size ≤ _); rw [arrV_size]; exact hi) (by show (arrV _ _ _).slots[_]? = _; rw [arrV_read _ _ hlt]) rfl rfl hd k'
theorem mm_rd_ref {ad : Nat → Nat} {q : Nat} (hq : q + 1 < 2 ^ 31) : mm_rd ad (nI (q + 1)) = some (ad q) := by
  unfold mm_rd
  rw [if_neg (nI_nle (by omega) hq), nI_clamp hq]
  rfl
theorem mm_lay_ra {X : mm_X} {ad : Nat → Nat} {k t n j q : Nat} (ht : ¬ t < 2) (hq : q + 1 < 2 ^ 31) (hs : h.1[k]? = some (.inl (t, n))) : mm_lay X ad (h.1, mm_up h.2.1 k j (nI (q + 1)), h.2.2) = (mm_lay X ad h).set k (ad k, .inl (X.2.1 t, n, .inr (.inr (.inr (.inr (va_up (fun i => mm_rd ad (h.2.1 k i)) j (some (ad q)))))))) := by
  refine mm_lay_set hs (mm_set_self hs) (fun j hj c => mm_cv_up hj c) ?_
  simp only [mm_cv, if_neg ht]
  congr 7
  funext i
  rw [mm_up_eq]
  by_cases e : i = j
  · subst e; simp [upd, va_up, mm_rd_ref hq]
  · simp [upd, va_up, e]
/-- a cell goes into an array of references: a Text among Texts, a Kind or one under it among Kinds -/
theorem mm_aast {k t n q ci : Nat} {i : Int32} {fs : List Nat} (ht : t = 2 ∧ ci = 10 ∨ t = 3 ∧ ci = 2 ∨ t = 3 ∧ ∃ r : vw_C, vwCl[ci]? = some r ∧ Cond.castable r.1 "SchoolOnRaft$Kind" ∈ mm_N) (hs : h.1[k]? = some (.inl (t, n))) (hi : vp_in i n) (hq : h.1[q]? = some (.inr (ci, fs))) (hq2 : q + 1 < 2 ^ 31) (hd : decode M.2.1 pc = .ok (.aastore, 1)) (kk : mm_W d M mc ms Q nc ns (pc + 1, lv, st, (h.1, mm_up h.2.1 k i.toNatClampNeg (nI (q + 1)), h.2.2))) : mm_W d M mc ms Q nc ns (pc, lv, .ref q :: .int i :: .ref k :: st, h) := by
  intro p l e s m args below meth c X ad0 n0 ad H locs ls C ha hn hR hS hl
  have C' := C
  obtain ⟨hx, hb, hml, hr, hlo, hown, hts, hnm, hT, hO⟩ := C'
  have e3 := fun ht => mm_lay_ra (h := h) (X := X) (ad := ad) (t := t) (n := n) (j := i.toNatClampNeg) (q := q) ht hq2 hs
  rcases ht with ⟨rfl, rfl⟩ | ⟨rfl, rfl⟩ | ⟨rfl, r, hr1, hr2⟩
  · refine va_astq (D := X.1) (cl := vwCl) hx hb hT.1 hR.1 hR.2.1 hS k 2 q 10 (r := (RX10, TX10, 3)) (mm_lay_at hs) rfl (mm_lay_at hq) rfl hi hd (fun H1 locs1 hP1 hD1 hS1 => ?_)
    exact kk p l e s m args below meth c X ad0 n0 ad H1 locs1 ls C ha hn ⟨by rw [e3 (by decide)]; exact hP1, by rw [e3 (by decide)]; exact hD1, hR.2.2⟩ hS1 hl
  · refine va_astq (D := X.1) (cl := vwCl) hx hb hT.1 hR.1 hR.2.1 hS k 3 q 2 (r := (RX2, TX2, 0)) (mm_lay_at hs) rfl (mm_lay_at hq) rfl hi hd (fun H1 locs1 hP1 hD1 hS1 => ?_)
    exact kk p l e s m args below meth c X ad0 n0 ad H1 locs1 ls C ha hn ⟨by rw [e3 (by decide)]; exact hP1, by rw [e3 (by decide)]; exact hD1, hR.2.2⟩ hS1 hl
  · refine va_astqO (D := X.1) (cl := vwCl) hx hb hT.1 hR.1 hR.2.1 hS k 3 q ci (r := r) (E := "SchoolOnRaft$Kind") (mm_lay_at hs) rfl (hT.2.1 _ hr2) (mm_lay_at hq) hr1 hi hd (fun H1 locs1 hP1 hD1 hS1 => ?_)
    exact kk p l e s m args below meth c X ad0 n0 ad H1 locs1 ls C ha hn ⟨by rw [e3 (by decide)]; exact hP1, by rw [e3 (by decide)]; exact hD1, hR.2.2⟩ hS1 hl
end
end
section
/-! ===== calls over the picture ===== -/
theorem mm_AOA_spec {t : FieldType} {U : State} (h : va_AOA t U) :
    ∃ comp c k, U.vm.findClass (FieldType.array t).toString = some comp ∧ (U.vm.classes.findIdx? fun (x : Class) => match x.kind with | .array component _ => component == comp | _ => false) = some c ∧ U.vm.classes[c]? = some k ∧ k.kind = .array comp (.array t) ∧
      U.vm.findClass ("[" ++ (FieldType.array t).toString) = some c := by
  unfold va_AOA Cond.before at h
  simp only [Cond.holds, Cond.value, beq_iff_eq] at h
  cases hc : U.vm.findClass (FieldType.array t).toString with
  | none => simp [hc] at h
  | some comp =>
    simp only [hc, Option.bind_some, Option.bind_eq_some_iff, Option.map_eq_some_iff] at h
    obtain ⟨c, hi, k, hk, hb⟩ := h
    obtain ⟨hlt, hp, -⟩ := Array.findIdx?_eq_some_iff_getElem.mp hi
    have hkk : U.vm.classes[c] = k := (Array.getElem?_eq_some_iff.mp hk).2
    rw [hkk] at hp
    cases hkind : k.kind with
    | array component ty =>
      rw [hkind] at hb hp
      simp at hb hp
      exact ⟨comp, c, k, rfl, hi, hk, by rw [hkind, hp, hb.1], hb.2⟩
    | _ => rw [hkind] at hb; simp at hb
theorem mm_AOA_moved {t : FieldType} {u U : State} (hvm : u.vm.Alike U.vm) (h : va_AOA t u) : va_AOA t U := by
  obtain ⟨comp, c, k, h1, h2, h3, h4, h5⟩ := mm_AOA_spec h
  obtain ⟨k', hk', he⟩ := hvm.2.2 _ _ h3
  have hi : (U.vm.classes.findIdx? fun (x : Class) => match x.kind with | .array component _ => component == comp | _ => false) = some c := by
    have e1 := va_idx_bare U.vm comp
    have e2 := va_idx_bare u.vm comp
    have e3 : U.vm.bare = u.vm.bare := by first | exact hvm.bare_eq | exact hvm.bare_eq.symm
    rw [e3] at e1
    exact (e1.symm.trans e2).trans h2
  have hkind : k'.kind = .array comp (.array t) := by rw [he]; exact h4
  have f1 : U.vm.findClass (FieldType.array t).toString = some comp := by rw [hvm.findClass]; exact h1
  have f2 : U.vm.findClass ("[" ++ (FieldType.array t).toString) = some c := by rw [hvm.findClass]; exact h5
  unfold va_AOA Cond.before Cond.holds
  simp only [Cond.value]
  rw [f1, Option.bind_some]
  refine (congrArg (fun o : Option Nat => (o.bind (fun c => (U.vm.classes[c]?).map fun (k : Class) => match k.kind with | .array _ ty => decide (ty = FieldType.array t) && decide (U.vm.findClass ("[" ++ (FieldType.array t).toString) = some c) | _ => false) == some true)) hi).trans ?_
  simp [hk', hkind, f2]
theorem mm_N_warm {w : Cond} (hw : mm_isN w = true) {s U : State} (hW : s.WarmedH U.vm) (h : va_Nw w s) : va_Nw w U := by
  cases w <;> first | exact va_Nw.warmM hW h | exact va_Nw.warmC hW h | exact va_Nw.warmD hW h | cases hw
theorem mm_T.moved {X : mm_X} {s U : State} (hW : s.WarmedH U.vm) (h : mm_T X s) : mm_T X U := by
  obtain ⟨h1, h2, h3, h4, h5, h6, h7⟩ := h
  exact ⟨va_K.moved hW.alike h1, fun w hw => mm_N_warm (List.mem_filter.mp hw).2 hW (h2 w hw), va_AO.moved hW.alike h3, va_AO.moved hW.alike h4, mm_AOA_moved hW.alike h5, fun q hq => va_Nc.moved hW.alike (h6 q hq), fun i q hq => vk_R.warm hW (h7 i q hq)⟩
theorem mm_O.moved {X : mm_X} {s U : State} {H : Heap} (hv : s.vm.Alike U.vm) (h : mm_O X s H) : mm_O X U H :=
  ⟨vk_S.moved hv h.1, va_Z.moved hv h.2.1, va_X.moved hv h.2.2.1, h.2.2.2.1, h.2.2.2.2.1, h.2.2.2.2.2.imp (va_Z.moved hv) (va_Z.moved hv)⟩
theorem mm_O.kept {X : mm_X} {U : State} {H H1 : Heap} (h : mm_O X U H) (hz : H.size ≤ H1.size) (hq : ∀ a : Nat, a < H.size → ¬ mm_A X a → H1[a]? = H[a]?) : mm_O X U H1 :=
  ⟨vk_S.kept h.1 hq, va_Z.kept h.2.1 hq, va_X.kept h.2.2.1 (hq _ (Nat.lt_of_lt_of_le h.2.2.2.1 h.2.2.2.2.1) (Nat.not_le.mpr h.2.2.2.1)), h.2.2.2.1, Nat.le_trans h.2.2.2.2.1 hz, h.2.2.2.2.2.imp (fun z => va_Z.kept z hq) (fun z => va_Z.kept z hq)⟩
theorem mm_P_blind {X : mm_X} {ad : Nat → Nat} {as : List Value} {h : mm_Hp} : FrameBlind (mm_P X ad as h) := by
  intro a U g mk hp
  obtain ⟨h1, h2, h3, h4⟩ := hp
  exact ⟨h1, mm_T.moved (s := U) (U := U.calling g mk a) (State.WarmedH.refl U) h2, mm_O.moved (s := U) (U := U.calling g mk a) (Vm.Alike.refl U.vm) h3, h4⟩
/-- the references among the locals and on the stack are old ones -/
def mm_vs (n : Nat) (lv : mm_L) (st : List Value) : Prop := (∀ k : Nat, some (Value.ref k) ∈ lv → k < n) ∧ ∀ k : Nat, Value.ref k ∈ st → k < n
def mm_vl (b : Nat) : mm_L → Bool
  | [] => true
  | some (.ref k) :: lv => Nat.blt k b && mm_vl b lv
  | _ :: lv => mm_vl b lv
def mm_vt (b : Nat) : List Value → Bool
  | [] => true
  | .ref k :: st => Nat.blt k b && mm_vt b st
  | _ :: st => mm_vt b st
def mm_vb (b : Nat) (lv : mm_L) (st : List Value) : Bool := mm_vl b lv && mm_vt b st
theorem mm_vl_ok {b : Nat} : ∀ {lv : mm_L}, mm_vl b lv = true → ∀ k : Nat, some (Value.ref k) ∈ lv → k < b := by
  intro lv
  induction lv with
  | nil => intro _ k hk; exact (List.not_mem_nil hk).elim
  | cons x lv ih =>
    intro h k hk
    rcases List.mem_cons.mp hk with e | e
    · subst e
      simp only [mm_vl, Bool.and_eq_true] at h
      exact Nat.blt_eq.mp h.1
    · refine ih ?_ k e
      cases x with
      | none => exact h
      | some v =>
        cases v with
        | ref j => simp only [mm_vl, Bool.and_eq_true] at h; exact h.2
        | _ => exact h
theorem mm_vt_ok {b : Nat} : ∀ {st : List Value}, mm_vt b st = true → ∀ k : Nat, Value.ref k ∈ st → k < b := by
  intro st
  induction st with
  | nil => intro _ k hk; exact (List.not_mem_nil hk).elim
  | cons x st ih =>
    intro h k hk
    rcases List.mem_cons.mp hk with e | e
    · subst e
      simp only [mm_vt, Bool.and_eq_true] at h
      exact Nat.blt_eq.mp h.1
    · refine ih ?_ k e
      cases x with
      | ref j => simp only [mm_vt, Bool.and_eq_true] at h; exact h.2
      | _ => exact h
theorem mm_vs_b {b n : Nat} {lv : mm_L} {st : List Value} (h : mm_vb b lv st = true) (hn : b ≤ n) : mm_vs n lv st :=
  ⟨fun k hk => Nat.lt_of_lt_of_le (mm_vl_ok (Bool.and_eq_true_iff.mp h).1 k hk) hn, fun k hk => Nat.lt_of_lt_of_le (mm_vt_ok (Bool.and_eq_true_iff.mp h).2 k hk) hn⟩
theorem mm_rv_same {X : mm_X} {ad ad' : Nat → Nat} {n : Nat} (hag : ∀ k, k < n → ad' k = ad k) {v : Value} (hv : ∀ k, v = .ref k → k < n) : mm_rv X ad' v = mm_rv X ad v := by
  cases v <;> first | rfl | exact congrArg Value.ref (hag _ (hv _ rfl))
theorem mm_lh.ext {X : mm_X} {ad ad' : Nat → Nat} {ls : Array Slot} {nL n : Nat} {lv : mm_L} (h : mm_lh X ad ls nL lv) (hag : ∀ k, k < n → ad' k = ad k) (hv : ∀ k : Nat, some (Value.ref k) ∈ lv → k < n) : mm_lh X ad' ls nL lv :=
  ⟨h.1, h.2.1, h.2.2.1, fun i v hi => by rw [mm_rv_same hag (fun k e => hv k (e ▸ List.mem_of_getElem? hi))]; exact h.2.2.2 i v hi⟩
theorem mm_st_ext {X : mm_X} {ad ad' : Nat → Nat} {n : Nat} {st : List Value} (hag : ∀ k, k < n → ad' k = ad k) (hv : ∀ k : Nat, Value.ref k ∈ st → k < n) : st.map (mm_rv X ad') = st.map (mm_rv X ad) :=
  List.map_congr_left (fun v hm => mm_rv_same hag (fun k e => hv k (e ▸ hm)))
section
variable {d : Nat} {M : mm_M} {mc ms : Nat} {Q : Option Value → mm_Hp → Prop} {nc ns pc : Nat} {lv : mm_L} {st : List Value} {h : mm_Hp}
theorem mm_after {Q' : Option Value → mm_Hp → Prop} {mc' ms' : Nat} (hvs : mm_vs h.1.length lv st) (kk : ∀ v h', Q' v h' → mm_W d M mc ms Q (nc + mc') (ns + ms') (pc + 3, lv, v.toList ++ st, h'))
    {p : Program} {l : Launch} {e : Env} {s : State} {m : MethodId} {args : Array Value} {below : List Frame} {meth : Method} {c : Code} {X : mm_X} {ad0 : Nat → Nat} {n0 : Nat} {ad : Nat → Nat} {H : Heap} {locs : List Loc} {ls : Array Slot} {a : Array Value} {st0 : List Value}
    (C : mm_C p s m args meth c M X) (ha : ∀ k, k < n0 → ad k = ad0 k) (hn : n0 ≤ h.1.length) (hS : va_S (mm_A X) s.heap H locs) (hl : mm_lh X ad ls M.2.2.1 lv)
    (hr : va_Run p l e (mm_R d mc ms) s m args below meth c H locs nc ns mc' ms' (F0 m pc ls st0) (st.map (mm_rv X ad)) (mm_Q X ad h.1.length Q' a) (mm_A X)) :
    W p l e (mm_R d mc ms) s m args below meth c H locs nc ns (MQ below (mm_Q X ad0 n0 Q) args s mc ms (mm_A X)) (F0 m pc ls st0) := by
  intro T hT Xs
  obtain ⟨v, st₀, t, T', L, h0, X', hL, e1, e2, ⟨⟨v', h', ad', hv, hq, hRel, hag, hln⟩, hz, hk⟩, stp⟩ := hr T hT Xs
  cases hv
  rw [h0] at hz hk
  have hS' : va_S (mm_A X) s.heap T'.heap (locs ++ L) := ⟨Nat.le_trans hS.1 (by rw [e1]; exact hz), fun q h1 h2 => by rw [e1, hk q (Nat.lt_of_lt_of_le h1 hS.1) h2]; exact hS.2.1 q h1 h2, fun q hq => by
    rcases List.mem_append.mp hq with h | h
    · exact hS.2.2 q h
    · exact hL q h⟩
  have k' := kk v' h' hq p l e s m args below meth c X ad0 n0 ad' T'.heap (locs ++ L) ls C (fun k hk => (hag k (Nat.lt_of_lt_of_le hk hn)).trans (ha k hk)) (Nat.le_trans hn hln) (by rw [e1]; exact hRel) hS' (hl.ext hag hvs.1)
  obtain ⟨t2, a1, b1⟩ := k' T' rfl X'
  refine ⟨t2, stp t2 ?_, b1⟩
  have ef : F0 m (pc + 3) ls ((v'.toList ++ st).map (mm_rv X ad')) = { F0 m pc ls st0 with pc := (F0 m pc ls st0).pc + 3, stack := (v'.map (mm_rv X ad')).toList ++ st.map (mm_rv X ad) } := by
    rw [List.map_append, mm_st_ext hag hvs.2]
    cases v' <;> rfl
  rw [← ef]
  exact a1
/-- what a call asks of the callee N, of n parameters (an instance's own apart) -/
def mm_cw (N : mm_M) (n : Nat) : Prop := Cond.code N.1 N.2.1 N.2.2.1 N.2.2.2 ∈ mm_G ∧ Cond.initialized N.1.cls ∈ mm_G ∧ (N.1.cls ≠ "java/lang/invoke/MethodHandle" ∧ N.1.cls ≠ "java/lang/invoke/VarHandle" ∧ (parseMethodDescriptor N.1.desc).map (fun d => d.parameters.length) = some n) ∧ N.2.2.1 ≤ 22
theorem mm_good {N : mm_M} {n : Nat} (h : mm_cw N n) : GoodIn mm_G (.code N.1 N.2.1 N.2.2.1 N.2.2.2 :: mm_G) := by
  intro w hw
  rcases List.mem_cons.mp hw with e | e
  · rw [e]; exact ⟨h.1, good_of_word (List.mem_filter.mp h.1).2⟩
  · exact ⟨e, good_of_word (List.mem_filter.mp e).2⟩
theorem mm_room {d d' nL mc ms mc' ms' : Nat} (hd : d' + 1 ≤ d) (hn : nL ≤ 22) : (mm_R d' mc' ms').frames + 1 ≤ (mm_R d mc ms).frames ∧ 8 + (nL + 11) + (mm_R d' mc' ms').locals ≤ (mm_R d mc ms).locals := by
  refine ⟨hd, ?_⟩
  show 8 + (nL + 11) + (41 * d' + 32) ≤ 41 * d + 32
  omega
theorem mm_CB {N : mm_M} {n idx d' mc' ms' : Nat} {s : State} {args : Array Value} (hN : mm_cw N n) (hlk : Cond.methodLink M.1.cls idx N.1 ∈ mm_G) (hdd : d' + 1 ≤ d) (hts : ∀ w ∈ mm_G, w.before args s = true) : CallB (mm_R d mc ms) s args M.1.cls idx N.1 N.2.1 N.2.2.1 N.2.2.2 (.code N.1 N.2.1 N.2.2.1 N.2.2.2 :: mm_G) (mm_R d' mc' ms') mc' ms' n :=
  callB_of n hts (mm_good hN) rfl rfl rfl (hts _ hN.2.1) (hts _ hlk) hN.2.2.1 (mm_room hdd hN.2.2.2)
theorem mm_pre {X : mm_X} {ad : Nat → Nat} {s : State} {H : Heap} {locs : List Loc} {as : List Value} (hT : mm_T X s) (hO : mm_O X s s.heap) (hR : mm_Rel X ad h H) (hS : va_S (mm_A X) s.heap H locs) : ∀ U : State, U.heap = H → s.WarmedH U.vm → mm_P X ad as h (as.map (mm_rv X ad)).toArray U :=
  fun U hU hW => ⟨rfl, mm_T.moved hW hT, by rw [hU]; exact mm_O.moved hW.alike (mm_O.kept hO hS.1 hS.2.1), by rw [hU]; exact hR⟩
theorem mm_cats {X : mm_X} {ad : Nat → Nat} {st : List Value} (h : (st.map Value.category).sum ≤ 8) : ((st.map (mm_rv X ad)).map fun v => v.category).sum ≤ 8 := by
  rw [List.map_map, show (fun v : Value => v.category) ∘ mm_rv X ad = Value.category from funext (fun v => mm_rv_cat v)]
  exact h
/-- a static method -/
theorem mm_cS {N : mm_M} {as : List Value} {idx d' mc' ms' : Nat} {Q' : Option Value → mm_Hp → Prop} (hN : mm_cw N as.length) (hlk : Cond.methodLink M.1.cls idx N.1 ∈ mm_G) (hst : Cond.static N.1 ∈ mm_G) (hd : decode M.2.1 pc = .ok (.invokestatic idx, 3)) (hct : mm_Ct d' N as h mc' ms' Q') (hdd : d' + 1 ≤ d) (hm : nc + mc' ≤ mc ∧ ns + ms' ≤ ms) (hcat : (st.map Value.category).sum ≤ 8) (hvs : mm_vs h.1.length lv st)
    (kk : ∀ v h', Q' v h' → mm_W d M mc ms Q (nc + mc') (ns + ms') (pc + 3, lv, v.toList ++ st, h')) : mm_W d M mc ms Q nc ns (pc, lv, as.reverse ++ st, h) := by
  intro p l e s m args below meth c X ad0 n0 ad H locs ls C ha hn hR hS hl
  have C' := C
  obtain ⟨hx, hb, hml, hr, hlo, hown, hts, hnm, hT, hO⟩ := C'
  refine mm_after hvs kk C ha hn hS hl (a := (as.map (mm_rv X ad)).toArray) ?_
  refine va_runS (As := as.map (mm_rv X ad)) (n := as.length) ⟨hx, hb, hml, hown, hts⟩ (hct l X ad) ⟨mm_CB hN hlk hdd hts, hts _ hst⟩ ⟨mm_P_blind, mm_pre hT hO hR hS⟩ rfl (by rw [List.length_map]) hl.2.1 ?_ (lv_room (m := m) (pc := pc) (ls := ls) (rest := []) (mm_cats hcat)) hd hm
  show ((as.reverse ++ st).map (mm_rv X ad)) = _
  rw [List.map_append, List.map_reverse]
/-- a method of the receiver's own class -/
theorem mm_cV {N : mm_M} {as : List Value} {q ci idx d' mc' ms' : Nat} {fs : List Nat} {r : vw_C} {Q' : Option Value → mm_Hp → Prop} (hN : mm_cw N as.length) (hlk : Cond.methodLink M.1.cls idx N.1 ∈ mm_G) (hin : Cond.instanceMethod N.1 ∈ mm_G) (hsl : Cond.selects r.1 N.1 N.1 ∈ mm_G) (hrc : vwCl[ci]? = some r) (hq : h.1[q]? = some (.inr (ci, fs))) (hd : decode M.2.1 pc = .ok (.invokevirtual idx, 3)) (hct : mm_Ct d' N (.ref q :: as) h mc' ms' Q') (hdd : d' + 1 ≤ d) (hm : nc + mc' ≤ mc ∧ ns + ms' ≤ ms) (hcat : (st.map Value.category).sum ≤ 8) (hvs : mm_vs h.1.length lv st)
    (kk : ∀ v h', Q' v h' → mm_W d M mc ms Q (nc + mc') (ns + ms') (pc + 3, lv, v.toList ++ st, h')) : mm_W d M mc ms Q nc ns (pc, lv, as.reverse ++ .ref q :: st, h) := by
  intro p l e s m args below meth c X ad0 n0 ad H locs ls C ha hn hR hS hl
  have C' := C
  obtain ⟨hx, hb, hml, hr, hlo, hown, hts, hnm, hT, hO⟩ := C'
  refine mm_after hvs kk C ha hn hS hl (a := ((.ref q :: as).map (mm_rv X ad)).toArray) ?_
  refine va_runV (As := as.map (mm_rv X ad)) (C := r.1) (n := as.length) (b := ad q) ⟨hx, hb, hml, hown, hts⟩ (hct l X ad) ⟨mm_CB hN hlk hdd hts, hts _ hin, hts _ hsl⟩ ⟨mm_P_blind, va_recv hT.1 hR.1 hrc (mm_lay_at hq), mm_pre (as := .ref q :: as) hT hO hR hS⟩ rfl (by rw [List.length_map]) hl.2.1 ?_ (lv_room (m := m) (pc := pc) (ls := ls) (rest := []) (mm_cats hcat)) hd hm
  show ((as.reverse ++ .ref q :: st).map (mm_rv X ad)) = _
  rw [List.map_append, List.map_reverse]
  rfl
/-- a method that the receiver's class overrides or inherits: x is what the call names -/
theorem mm_cU {N : mm_M} {x : MethodName} {as : List Value} {q ci idx d' mc' ms' : Nat} {fs : List Nat} {r : vw_C} {Q' : Option Value → mm_Hp → Prop} (hN : mm_cw N as.length) (hlk : Cond.methodLink M.1.cls idx x ∈ mm_G) (hsm : Cond.sameMethod x.cls x.cls x.name x.desc ∈ mm_G) (hix : Cond.instanceMethod x ∈ mm_G) {b0 : ByteArray} {m0 : Nat} {r0 : Option FieldType} (h0 : Cond.code x b0 m0 r0 ∈ mm_G) (hxd : x.cls ≠ "java/lang/invoke/MethodHandle" ∧ x.cls ≠ "java/lang/invoke/VarHandle" ∧ x.desc = N.1.desc) (hin : Cond.instanceMethod N.1 ∈ mm_G) (hsl : Cond.selects r.1 x N.1 ∈ mm_G) (hrc : vwCl[ci]? = some r) (hq : h.1[q]? = some (.inr (ci, fs))) (hd : decode M.2.1 pc = .ok (.invokevirtual idx, 3)) (hct : mm_Ct d' N (.ref q :: as) h mc' ms' Q') (hdd : d' + 1 ≤ d) (hm : nc + mc' ≤ mc ∧ ns + ms' ≤ ms) (hcat : (st.map Value.category).sum ≤ 8) (hvs : mm_vs h.1.length lv st)
    (kk : ∀ v h', Q' v h' → mm_W d M mc ms Q (nc + mc') (ns + ms') (pc + 3, lv, v.toList ++ st, h')) : mm_W d M mc ms Q nc ns (pc, lv, as.reverse ++ .ref q :: st, h) := by
  intro p l e s m args below meth c X ad0 n0 ad H locs ls C ha hn hR hS hl
  have C' := C
  obtain ⟨hx, hb, hml, hr, hlo, hown, hts, hnm, hT, hO⟩ := C'
  refine mm_after hvs kk C ha hn hS hl (a := ((.ref q :: as).map (mm_rv X ad)).toArray) ?_
  have hG : GoodIn mm_G (va_wsO M.1.cls idx r.1 x.cls x N.1 (.code N.1 N.2.1 N.2.2.1 N.2.2.2 :: mm_G)) := by
    intro w hw
    unfold va_wsO at hw
    have hw' : w ∈ mm_G := by
      rcases List.mem_append.mp hw with e | e
      · simp only [List.mem_cons, List.not_mem_nil, or_false] at e
        rcases e with rfl | rfl | rfl | rfl | rfl | rfl
        · exact hlk
        · exact hsm
        · exact hix
        · exact hsl
        · exact hin
        · exact hN.2.1
      · exact (mm_good hN w e).1
    exact ⟨hw', good_of_word (List.mem_filter.mp hw').2⟩
  refine va_runU (As := as.map (mm_rv X ad)) (C := r.1) (owner := x.cls) (n := as.length) (b := ad q) ⟨hx, hb, hml, hown, hts⟩ (hct l X ad) (va_cwO as.length hts hG rfl rfl rfl (b0 := b0) (m0 := m0) (r0 := r0) h0 ⟨hxd.1, hxd.2.1, by rw [hxd.2.2]; exact hN.2.2.1.2.2⟩ (mm_room hdd hN.2.2.2)) ⟨mm_P_blind, va_recv hT.1 hR.1 hrc (mm_lay_at hq), mm_pre (as := .ref q :: as) hT hO hR hS⟩ rfl (by rw [List.length_map]) hl.2.1 ?_ (lv_room (m := m) (pc := pc) (ls := ls) (rest := []) (mm_cats hcat)) hd hm
  show ((as.reverse ++ .ref q :: st).map (mm_rv X ad)) = _
  rw [List.map_append, List.map_reverse]
  rfl
/-- super's method -/
theorem mm_cX {N : mm_M} {as : List Value} {q ci idx d' mc' ms' : Nat} {fs : List Nat} {r : vw_C} {Q' : Option Value → mm_Hp → Prop} (hN : mm_cw N as.length) (hlk : Cond.methodLink M.1.cls idx N.1 ∈ mm_G) (hsm : Cond.sameMethod N.1.cls N.1.cls N.1.name N.1.desc ∈ mm_G) (hsu : Cond.superclass M.1.cls N.1.cls ∈ mm_G) (hin : Cond.instanceMethod N.1 ∈ mm_G) (hni : N.1.name ≠ "<init>") (hrc : vwCl[ci]? = some r) (hq : h.1[q]? = some (.inr (ci, fs))) (hd : decode M.2.1 pc = .ok (.invokespecial idx, 3)) (hct : mm_Ct d' N (.ref q :: as) h mc' ms' Q') (hdd : d' + 1 ≤ d) (hm : nc + mc' ≤ mc ∧ ns + ms' ≤ ms) (hcat : (st.map Value.category).sum ≤ 8) (hvs : mm_vs h.1.length lv st)
    (kk : ∀ v h', Q' v h' → mm_W d M mc ms Q (nc + mc') (ns + ms') (pc + 3, lv, v.toList ++ st, h')) : mm_W d M mc ms Q nc ns (pc, lv, as.reverse ++ .ref q :: st, h) := by
  intro p l e s m args below meth c X ad0 n0 ad H locs ls C ha hn hR hS hl
  have C' := C
  obtain ⟨hx, hb, hml, hr, hlo, hown, hts, hnm, hT, hO⟩ := C'
  refine mm_after hvs kk C ha hn hS hl (a := ((.ref q :: as).map (mm_rv X ad)).toArray) ?_
  have hG : GoodIn mm_G (va_wsSU M.1.cls idx N.1 (.code N.1 N.2.1 N.2.2.1 N.2.2.2 :: mm_G)) := by
    intro w hw
    unfold va_wsSU at hw
    have hw' : w ∈ mm_G := by
      rcases List.mem_append.mp hw with e | e
      · simp only [List.mem_cons, List.not_mem_nil, or_false] at e
        rcases e with rfl | rfl | rfl | rfl | rfl
        · exact hlk
        · exact hsm
        · exact hsu
        · exact hin
        · exact hN.2.1
      · exact (mm_good hN w e).1
    exact ⟨hw', good_of_word (List.mem_filter.mp hw').2⟩
  refine va_runSU (As := as.map (mm_rv X ad)) (C := r.1) (cC := X.1.1 ci) (n := as.length) (b := ad q) (hT.1.1 ci r hrc).2 ⟨hx, hb, hml, hown, hts⟩ (hct l X ad) (va_cwSU as.length hts hG rfl rfl rfl ⟨hni, hN.2.2.1.2.2⟩ (mm_room hdd hN.2.2.2)) ⟨mm_P_blind, va_recv hT.1 hR.1 hrc (mm_lay_at hq), mm_pre (as := .ref q :: as) hT hO hR hS⟩ rfl (by rw [List.length_map]) hl.2.1 ?_ (lv_room (m := m) (pc := pc) (ls := ls) (rest := []) (mm_cats hcat)) hd hm
  show ((as.reverse ++ .ref q :: st).map (mm_rv X ad)) = _
  rw [List.map_append, List.map_reverse]
  rfl
/-- a constructor -/
theorem mm_cI {N : mm_M} {as : List Value} {q idx d' mc' ms' : Nat} {Q' : Option Value → mm_Hp → Prop} (hN : mm_cw N as.length) (hlk : Cond.methodLink M.1.cls idx N.1 ∈ mm_G) (hin : Cond.instanceMethod N.1 ∈ mm_G) (hni : N.1.name = "<init>" ∧ N.2.2.2 = none) (hd : decode M.2.1 pc = .ok (.invokespecial idx, 3)) (hct : mm_Ct d' N (.ref q :: as) h mc' ms' Q') (hdd : d' + 1 ≤ d) (hm : nc + mc' ≤ mc ∧ ns + ms' ≤ ms) (hcat : (st.map Value.category).sum ≤ 8) (hvs : mm_vs h.1.length lv st)
    (kk : ∀ v h', Q' v h' → mm_W d M mc ms Q (nc + mc') (ns + ms') (pc + 3, lv, v.toList ++ st, h')) : mm_W d M mc ms Q nc ns (pc, lv, as.reverse ++ .ref q :: st, h) := by
  intro p l e s m args below meth c X ad0 n0 ad H locs ls C ha hn hR hS hl
  have C' := C
  obtain ⟨hx, hb, hml, hr, hlo, hown, hts, hnm, hT, hO⟩ := C'
  refine mm_after hvs kk C ha hn hS hl (a := ((.ref q :: as).map (mm_rv X ad)).toArray) ?_
  have cb := mm_CB (M := M) (d := d) (mc := mc) (ms := ms) (mc' := mc') (ms' := ms') (d' := d') (s := s) (args := args) hN hlk hdd hts
  rw [hni.2] at cb
  refine va_runI (As := as.map (mm_rv X ad)) (n := as.length) (b := ad q) ⟨hx, hb, hml, hown, hts⟩ (by have := hct l X ad; rw [hni.2] at this; exact this) ⟨cb, hni.1, hts _ hin⟩ ⟨mm_P_blind, mm_pre (as := .ref q :: as) hT hO hR hS⟩ rfl (by rw [List.length_map]) hl.2.1 ?_ (lv_room (m := m) (pc := pc) (ls := ls) (rest := []) (mm_cats hcat)) hd hm
  show ((as.reverse ++ .ref q :: st).map (mm_rv X ad)) = _
  rw [List.map_append, List.map_reverse]
  rfl
/-- a nest mate's private constructor -/
theorem mm_cN {N : mm_M} {as : List Value} {q idx d' mc' ms' : Nat} {host : String} {Q' : Option Value → mm_Hp → Prop} (hN : mm_cw N as.length) (hlk : Cond.methodLinkNest M.1.cls idx N.1 host ∈ mm_N) (hin : Cond.instanceMethod N.1 ∈ mm_G) (hni : N.1.name = "<init>" ∧ N.2.2.2 = none) (hd : decode M.2.1 pc = .ok (.invokespecial idx, 3)) (hct : mm_Ct d' N (.ref q :: as) h mc' ms' Q') (hdd : d' + 1 ≤ d) (hm : nc + mc' ≤ mc ∧ ns + ms' ≤ ms) (hcat : (st.map Value.category).sum ≤ 8) (hvs : mm_vs h.1.length lv st)
    (kk : ∀ v h', Q' v h' → mm_W d M mc ms Q (nc + mc') (ns + ms') (pc + 3, lv, v.toList ++ st, h')) : mm_W d M mc ms Q nc ns (pc, lv, as.reverse ++ .ref q :: st, h) := by
  intro p l e s m args below meth c X ad0 n0 ad H locs ls C ha hn hR hS hl
  have C' := C
  obtain ⟨hx, hb, hml, hr, hlo, hown, hts, hnm, hT, hO⟩ := C'
  refine mm_after hvs kk C ha hn hS hl (a := ((.ref q :: as).map (mm_rv X ad)).toArray) ?_
  have cb : va_CN (mm_R d mc ms) s args M.1.cls idx N.1 host N.2.1 N.2.2.1 N.2.2.2 (.code N.1 N.2.1 N.2.2.1 N.2.2.2 :: mm_G) (mm_R d' mc' ms') mc' ms' as.length := va_cnB as.length hts (mm_good hN) rfl rfl rfl (hT.2.1 _ hlk) (hts _ hN.2.1) hN.2.2.1 (mm_room hdd hN.2.2.2)
  rw [hni.2] at cb
  refine va_runIN (As := as.map (mm_rv X ad)) (host := host) (n := as.length) (b := ad q) ⟨hx, hb, hml, hown, hts⟩ (by have := hct l X ad; rw [hni.2] at this; exact this) ⟨cb, hni.1, hts _ hin⟩ ⟨mm_P_blind, mm_pre (as := .ref q :: as) hT hO hR hS⟩ rfl (by rw [List.length_map]) hl.2.1 ?_ (lv_room (m := m) (pc := pc) (ls := ls) (rest := []) (mm_cats hcat)) hd hm
  show ((as.reverse ++ .ref q :: st).map (mm_rv X ad)) = _
  rw [List.map_append, List.map_reverse]
  rfl
/-- Object's constructor -/
theorem mm_cO {q idx : Nat} (hlk : Cond.methodLink M.1.cls idx Lib.objectInit ∈ mm_G) (hin : Cond.instanceMethod Lib.objectInit ∈ mm_G) (hcd : Cond.code Lib.objectInit ⟨#[0xb1]⟩ 1 none ∈ mm_G) (hd : decode M.2.1 pc = .ok (.invokespecial idx, 3)) (hdd : 1 ≤ d) (hcat : (st.map Value.category).sum ≤ 8) (kk : mm_W d M mc ms Q nc ns (pc + 3, lv, st, h)) : mm_W d M mc ms Q nc ns (pc, lv, .ref q :: st, h) := by
  intro p l e s m args below meth c X ad0 n0 ad H locs ls C ha hn hR hS hl
  have k' := kk p l e s m args below meth c X ad0 n0 ad H locs ls C ha hn hR hS hl
  obtain ⟨hx, hb, hml, hr, hlo, hown, hts, hnm, hT, hO⟩ := C
  have hroom := lv_room (m := m) (pc := pc) (ls := ls) (rest := []) (mm_cats (X := X) (ad := ad) hcat)
  refine W.objInit (a := ad q) (rest := st.map (mm_rv X ad)) hx hb hown (hts _ hlk) (hts _ hin) (hts _ hcd) rfl (by rw [hml]; exact hl.2.1) rfl hd hdd ?_ k'
  have h1 : 2 * (F0 m pc ls []).monitorRoom + ((st.map (mm_rv X ad)).map fun v => v.category).sum ≤ 8 := hroom
  show 2 * (F0 m pc ls []).monitorRoom + ((st.map (mm_rv X ad)).map fun v => v.category).sum + 12 ≤ 41 * d + 32
  omega
end
end
section
/-! ===== returns, branches, new cells, copies ===== -/
def mm_zc (g : Nat → Nat → Int32) (n : Nat) : Nat → Nat → Int32 := fun a b => bif a == n then 0 else g a b
def mm_zl (g : Nat → Nat → Int64) (n : Nat) : Nat → Nat → Int64 := fun a b => bif a == n then 0 else g a b
/-- the picture with a new cell, all 0 -/
def mm_ad (h : mm_Hp) (c : mm_Sh) : mm_Hp := (h.1 ++ [c], mm_zc h.2.1 h.1.length, mm_zl h.2.2.1 h.1.length, h.2.2.2)
/-- the references of the picture are cells of it -/
def mm_wf (h : mm_Hp) : Prop := ∀ (k : Nat) (c : mm_Sh), h.1[k]? = some c → (∀ a, c = .inl a → a.1 < 2 ∨ ∀ i, (h.2.1 k i).toNatClampNeg ≤ h.1.length) ∧ ∀ o, c = .inr o → ∀ f ∈ o.2, f < h.1.length + 3
theorem mm_zc_ne {g : Nat → Nat → Int32} {n j : Nat} (h : j ≠ n) : mm_zc g n j = g j := by
  funext i
  simp [mm_zc, beq_false_of_ne h]
theorem mm_zl_ne {g : Nat → Nat → Int64} {n j : Nat} (h : j ≠ n) : mm_zl g n j = g j := by
  funext i
  simp [mm_zl, beq_false_of_ne h]
def mm_ext (ad : Nat → Nat) (n q : Nat) : Nat → Nat := fun k => if k = n then q else ad k
theorem mm_ext_lt {ad : Nat → Nat} {n q k : Nat} (h : k < n) : mm_ext ad n q k = ad k := if_neg (Nat.ne_of_lt h)
theorem mm_cv_ad {X : mm_X} {ad : Nat → Nat} {h : mm_Hp} {c' c : mm_Sh} {q k : Nat} (hw : mm_wf h) (hk : h.1[k]? = some c) : mm_cv X (mm_ext ad h.1.length q) (mm_ad h c') k c = mm_cv X ad h k c := by
  have hlt : k < h.1.length := (List.getElem?_eq_some_iff.mp hk).1
  have hne : k ≠ h.1.length := Nat.ne_of_lt hlt
  obtain ⟨w1, w2⟩ := hw k c hk
  cases c with
  | inl a =>
    have e0 : (mm_ad h c').2.1 k = h.2.1 k := mm_zc_ne hne
    simp only [mm_cv, e0]
    by_cases ht : a.1 < 2
    · simp only [if_pos ht]
    · simp only [if_neg ht]
      congr 7
      funext i
      have h1 := (w1 a rfl).resolve_left ht i
      unfold mm_rd
      split
      · rfl
      · rename_i hx
        rw [mm_ext_lt]
        have : 0 < (h.2.1 k i).toNatClampNeg := by
          have h0 : (0 : Int32) < h.2.1 k i := by rw [← Int32.not_le]; exact hx
          have h2 : (0 : Int) < (h.2.1 k i).toInt := by simpa using Int32.lt_iff_toInt_lt.mp h0
          show 0 < (h.2.1 k i).toInt.toNat
          omega
        omega
  | inr o =>
    simp only [mm_cv]
    congr 2
    apply List.ext_getElem?
    intro j
    rw [List.getElem?_mapIdx, List.getElem?_mapIdx]
    have h1 := fun f hf => w2 o rfl f (List.mem_of_getElem? (i := j) hf)
    generalize o.2[j]? = z at h1
    cases z with
    | none => rw [Option.map_none, Option.map_none]
    | some f =>
      rw [Option.map_some, Option.map_some]
      have hf := h1 f rfl
      match f, hf with
      | 0, _ => exact congrArg (fun x => some (Value.int x)) (congrFun (mm_zc_ne hne) j)
      | 1, _ => exact congrArg (fun x => some (Value.long x)) (congrFun (mm_zl_ne hne) j)
      | 2, _ => rfl
      | f + 3, hf => exact congrArg (fun x => some (Value.ref x)) (mm_ext_lt (by omega))
theorem mm_lay_ad {X : mm_X} {ad : Nat → Nat} {h : mm_Hp} {c' : mm_Sh} {q : Nat} (hw : mm_wf h) : mm_lay X (mm_ext ad h.1.length q) (mm_ad h c') = mm_lay X ad h ++ [(q, mm_cv X (mm_ext ad h.1.length q) (mm_ad h c') h.1.length c')] := by
  refine List.ext_getElem? (fun j => ?_)
  rw [mm_lay_get]
  have e1 : (mm_ad h c').1 = h.1 ++ [c'] := rfl
  rw [e1]
  by_cases hj : j < h.1.length
  · rw [List.getElem?_append_left hj, List.getElem?_append_left (by rw [mm_lay_len]; exact hj), mm_lay_get]
    have h2 := fun c hc => mm_cv_ad (X := X) (ad := ad) (c' := c') (q := q) (k := j) (c := c) hw hc
    generalize h.1[j]? = z at h2
    cases z with
    | none => rw [Option.map_none, Option.map_none]
    | some c => rw [Option.map_some, Option.map_some, h2 c rfl, mm_ext_lt hj]
  · rw [List.getElem?_append_right (by omega), List.getElem?_append_right (by rw [mm_lay_len]; omega), mm_lay_len]
    by_cases e : j = h.1.length
    · subst e
      rw [Nat.sub_self]
      show some (mm_ext ad h.1.length q h.1.length, _) = some (q, _)
      rw [show mm_ext ad h.1.length q h.1.length = q from if_pos rfl]
    · obtain ⟨x, hx⟩ : ∃ x, j - h.1.length = x + 1 := ⟨j - h.1.length - 1, by omega⟩
      rw [hx]
      rfl
section
variable {d : Nat} {M : mm_M} {mc ms : Nat} {Q : Option Value → mm_Hp → Prop} {nc ns pc : Nat} {lv : mm_L} {st : List Value} {h : mm_Hp}
/-- returns -/
theorem mm_Qof {X : mm_X} {ad0 ad : Nat → Nat} {n0 : Nat} {v : Option Value} {args : Array Value} {s : State} {H : Heap} {locs : List Loc} (ha : ∀ k, k < n0 → ad k = ad0 k) (hn : n0 ≤ h.1.length) (hR : mm_Rel X ad h H) (hS : va_S (mm_A X) s.heap H locs) (hq : Q v h) : ∀ t : State, t.heap = H → s.WarmedH t.vm → mm_Q X ad0 n0 Q args s (.returned (v.map (mm_rv X ad))) t :=
  fun t ht _ => ⟨⟨v, h, ad, rfl, hq, by rw [ht]; exact hR, ha, hn⟩, hS.F ht⟩
theorem mm_ri {v : Int32} (hr : M.2.2.2 = some .int) (hd : decode M.2.1 pc = .ok (.ireturn, 1)) (hm : nc ≤ mc ∧ ns ≤ ms) (hq : Q (some (.int v)) h) : mm_W d M mc ms Q nc ns (pc, lv, [.int v], h) := by
  intro p l e s m args below meth c X ad0 n0 ad H locs ls C ha hn hR hS hl
  obtain ⟨hx, hb, hml, hr0, hlo, hown, hts, hnm, hT, hO⟩ := C
  exact W.widen hm.1 hm.2 (W.iret (v := v) hx hb (hr0.trans hr) (mm_Qof (v := some (.int v)) ha hn hR hS hq) hS.2.2 hd hlo)
theorem mm_rz {v : Int32} (hr : M.2.2.2 = some .boolean) (hd : decode M.2.1 pc = .ok (.ireturn, 1)) (hm : nc ≤ mc ∧ ns ≤ ms) (hz : v = 0 ∨ v = 1) (hq : Q (some (.int v)) h) : mm_W d M mc ms Q nc ns (pc, lv, [.int v], h) := by
  intro p l e s m args below meth c X ad0 n0 ad H locs ls C ha hn hR hS hl
  obtain ⟨hx, hb, hml, hr0, hlo, hown, hts, hnm, hT, hO⟩ := C
  exact W.widen hm.1 hm.2 (W.zret (v := v) hx hb (hr0.trans hr) (by rcases hz with rfl | rfl <;> decide +kernel) (mm_Qof (v := some (.int v)) ha hn hR hS hq) hS.2.2 hd hlo)
theorem mm_rc {v : Int32} {ty : FieldType} (hr : M.2.2.2 = some ty) (hz : narrow ty (.int v) = .int v) (hd : decode M.2.1 pc = .ok (.ireturn, 1)) (hm : nc ≤ mc ∧ ns ≤ ms) (hq : Q (some (.int v)) h) : mm_W d M mc ms Q nc ns (pc, lv, [.int v], h) := by
  intro p l e s m args below meth c X ad0 n0 ad H locs ls C ha hn hR hS hl
  obtain ⟨hx, hb, hml, hr0, hlo, hown, hts, hnm, hT, hO⟩ := C
  exact W.widen hm.1 hm.2 (W.zret (v := v) hx hb (hr0.trans hr) hz (mm_Qof (v := some (.int v)) ha hn hR hS hq) hS.2.2 hd hlo)
theorem mm_rl {v : Int64} (hr : M.2.2.2 = some .long) (hd : decode M.2.1 pc = .ok (.lreturn, 1)) (hm : nc ≤ mc ∧ ns ≤ ms) (hq : Q (some (.long v)) h) : mm_W d M mc ms Q nc ns (pc, lv, [.long v], h) := by
  intro p l e s m args below meth c X ad0 n0 ad H locs ls C ha hn hR hS hl
  obtain ⟨hx, hb, hml, hr0, hlo, hown, hts, hnm, hT, hO⟩ := C
  exact W.widen hm.1 hm.2 (W.lret (v := v) hx hb (hr0.trans hr) (mm_Qof (v := some (.long v)) ha hn hR hS hq) hS.2.2 hd hlo)
theorem mm_r0 (hr : M.2.2.2 = none) (hd : decode M.2.1 pc = .ok (.return_, 1)) (hm : nc ≤ mc ∧ ns ≤ ms) (hq : Q none h) : mm_W d M mc ms Q nc ns (pc, lv, [], h) := by
  intro p l e s m args below meth c X ad0 n0 ad H locs ls C ha hn hR hS hl
  obtain ⟨hx, hb, hml, hr0, hlo, hown, hts, hnm, hT, hO⟩ := C
  exact W.widen hm.1 hm.2 (W.vret hx hb (hr0.trans hr) (mm_Qof (v := none) ha hn hR hS hq) hS.2.2 hd hlo)
theorem mm_ra {v : Value} {rt : FieldType} (hr : M.2.2.2 = some rt) (hrt : (∃ n, rt = .object n) ∨ ∃ t, rt = .array t) (hv : mm_isr v = true) (hd : decode M.2.1 pc = .ok (.areturn, 1)) (hm : nc ≤ mc ∧ ns ≤ ms) (hq : Q (some v) h) : mm_W d M mc ms Q nc ns (pc, lv, [v], h) := by
  intro p l e s m args below meth c X ad0 n0 ad H locs ls C ha hn hR hS hl
  obtain ⟨hx, hb, hml, hr0, hlo, hown, hts, hnm, hT, hO⟩ := C
  exact W.widen hm.1 hm.2 (W.aret (v := mm_rv X ad v) hx hb (hr0.trans hr) hrt (by rcases mm_isr_rv (X := X) (ad := ad) hv with ⟨a, e⟩ | e; exact Or.inr ⟨a, e⟩; exact Or.inl e) (mm_Qof (v := some v) ha hn hR hS hq) hS.2.2 hd hlo)
/-- branches: the condition, and the stack behind it -/
def mm_br (i : Instr) (st : List Value) : Option (Prop × Prop × List Value) :=
  match i, st with
  | .ifCond .eq _, .int x :: r => some (x = 0, ¬ x = 0, r)
  | .ifCond .ne _, .int x :: r => some (¬ x = 0, x = 0, r)
  | .ifCond .lt _, .int x :: r => some (x < 0, ¬ x < 0, r)
  | .ifCond .ge _, .int x :: r => some (0 ≤ x, ¬ 0 ≤ x, r)
  | .ifCond .gt _, .int x :: r => some (0 < x, ¬ 0 < x, r)
  | .ifCond .le _, .int x :: r => some (x ≤ 0, ¬ x ≤ 0, r)
  | .if_icmp .eq _, .int y :: .int x :: r => some (x = y, ¬ x = y, r)
  | .if_icmp .ne _, .int y :: .int x :: r => some (¬ x = y, x = y, r)
  | .if_icmp .lt _, .int y :: .int x :: r => some (x < y, ¬ x < y, r)
  | .if_icmp .ge _, .int y :: .int x :: r => some (y ≤ x, ¬ y ≤ x, r)
  | .if_icmp .gt _, .int y :: .int x :: r => some (y < x, ¬ y < x, r)
  | .if_icmp .le _, .int y :: .int x :: r => some (x ≤ y, ¬ x ≤ y, r)
  | .ifnull _, .ref _ :: r => some (False, True, r)
  | .ifnull _, .null :: r => some (True, False, r)
  | .ifnonnull _, .ref _ :: r => some (True, False, r)
  | .ifnonnull _, .null :: r => some (False, True, r)
  | _, _ => none
def mm_off : Instr → Int
  | .ifCond _ o => o
  | .if_icmp _ o => o
  | .ifnull o => o
  | .ifnonnull o => o
  | _ => 0
theorem mm_br_ok {i : Instr} {P P' : Prop} {r : List Value} {tgt : Nat} (hx : mm_br i st = some (P, P', r)) (hd : decode M.2.1 pc = .ok (i, 3)) (ht : (pc : Int) + mm_off i = (tgt : Int)) (kt : P → mm_W d M mc ms Q nc ns (tgt, lv, r, h)) (kf : P' → mm_W d M mc ms Q nc ns (pc + 3, lv, r, h)) : mm_W d M mc ms Q nc ns (pc, lv, st, h) := by
  intro p l e s m args below meth c X ad0 n0 ad H locs ls C ha hn hR hS hl
  have kt' := fun hP => kt hP p l e s m args below meth c X ad0 n0 ad H locs ls C ha hn hR hS hl
  have kf' := fun hP => kf hP p l e s m args below meth c X ad0 n0 ad H locs ls C ha hn hR hS hl
  unfold mm_br at hx
  split at hx
  · cases hx; exact lv_if_eq C.1 C.2.1 hd ht kt' kf'
  · cases hx; exact lv_if_ne C.1 C.2.1 hd ht kt' kf'
  · cases hx; exact lv_if_lt C.1 C.2.1 hd ht kt' kf'
  · cases hx; exact lv_if_ge C.1 C.2.1 hd ht kt' kf'
  · cases hx; exact lv_if_gt C.1 C.2.1 hd ht kt' kf'
  · cases hx; exact lv_if_le C.1 C.2.1 hd ht kt' kf'
  · cases hx; exact lv_icmp_eq C.1 C.2.1 hd ht kt' kf'
  · cases hx; exact lv_icmp_ne C.1 C.2.1 hd ht kt' kf'
  · cases hx; exact lv_icmp_lt C.1 C.2.1 hd ht kt' kf'
  · cases hx; exact lv_icmp_ge C.1 C.2.1 hd ht kt' kf'
  · cases hx; exact lv_icmp_gt C.1 C.2.1 hd ht kt' kf'
  · cases hx; exact lv_icmp_le C.1 C.2.1 hd ht kt' kf'
  · cases hx; exact lv_ifnull C.1 C.2.1 hd (kf' trivial)
  · cases hx; exact lv_ifnullN C.1 C.2.1 hd ht (kt' trivial)
  · cases hx; exact lv_ifnonnull C.1 C.2.1 hd ht (kt' trivial)
  · cases hx; exact lv_ifnonnullN C.1 C.2.1 hd (kf' trivial)
  · cases hx
theorem mm_tsw {x : Int32} {dflt lo hi : Int} {offs : Array Int} {len : Nat} (hd : decode M.2.1 pc = .ok (.tableswitch dflt lo hi offs, len)) (hin : ∀ (off : Int) (tgt : Nat), ¬ x.toInt < lo → ¬ hi < x.toInt → offs[(x.toInt - lo).toNat]? = some off → (pc : Int) + off = (tgt : Int) → mm_W d M mc ms Q nc ns (tgt, lv, st, h)) (hof : ∀ i : Nat, (i : Int) ≤ hi - lo → ∃ (off : Int) (tgt : Nat), offs[i]? = some off ∧ (pc : Int) + off = (tgt : Int)) (hout : ∀ tgt : Nat, x.toInt < lo ∨ hi < x.toInt → (pc : Int) + dflt = (tgt : Int) → mm_W d M mc ms Q nc ns (tgt, lv, st, h)) (hdf : ∃ tgt : Nat, (pc : Int) + dflt = (tgt : Int)) : mm_W d M mc ms Q nc ns (pc, lv, .int x :: st, h) := by
  by_cases hx : x.toInt < lo ∨ hi < x.toInt
  · obtain ⟨tgt, ht⟩ := hdf
    intro p l e s m args below meth c X ad0 n0 ad H locs ls C ha hn hR hS hl
    exact lv_tableOut C.1 C.2.1 hd hx ht (hout tgt hx ht p l e s m args below meth c X ad0 n0 ad H locs ls C ha hn hR hS hl)
  · have h1 : ¬ x.toInt < lo := fun q => hx (Or.inl q)
    have h2 : ¬ hi < x.toInt := fun q => hx (Or.inr q)
    obtain ⟨off, tgt, ho, ht⟩ := hof (x.toInt - lo).toNat (by omega)
    intro p l e s m args below meth c X ad0 n0 ad H locs ls C ha hn hR hS hl
    exact lv_tableIn C.1 C.2.1 hd h1 h2 ho ht (hin off tgt h1 h2 ho ht p l e s m args below meth c X ad0 n0 ad H locs ls C ha hn hR hS hl)
end
end
section
/-! ===== new cells, instanceof, copies ===== -/
def mm_fc : FieldType → Nat
  | .long => 1
  | .object _ => 2
  | .array _ => 2
  | _ => 0
/-- a new object's fields -/
def mm_df (ci n : Nat) : List Nat := (List.range n).map (fun j => mm_fc (mm_ty ci j))
def mm_ok1 (t : FieldType) : Bool := match t with
  | .int => true
  | .boolean => true
  | .long => true
  | .object _ => true
  | .array _ => true
  | _ => false
def mm_fin1 (ci n : Nat) : Bool := (List.range n).all (fun j => mm_ok1 (mm_ty ci j))
theorem mm_zero_i {h : mm_Hp} {c : mm_Sh} {j : Nat} : (mm_ad h c).2.1 h.1.length j = 0 := by
  show mm_zc h.2.1 h.1.length h.1.length j = 0
  simp [mm_zc]
theorem mm_zero_l {h : mm_Hp} {c : mm_Sh} {j : Nat} : (mm_ad h c).2.2.1 h.1.length j = 0 := by
  show mm_zl h.2.2.1 h.1.length h.1.length j = 0
  simp [mm_zl]
section
variable {d : Nat} {M : mm_M} {mc ms : Nat} {Q : Option Value → mm_Hp → Prop} {nc ns pc : Nat} {lv : mm_L} {st : List Value} {h : mm_Hp}
theorem mm_new {ci idx : Nat} {r : vw_C} (hrc : vwCl[ci]? = some r) (hf1 : mm_fin1 ci r.2.2 = true) (hcl : Cond.classLink M.1.cls idx r.1 ∈ mm_G) (hib : Cond.instantiable r.1 r.2.2 ∈ mm_G) (hini : Cond.initialized r.1 ∈ mm_G) (hd : decode M.2.1 pc = .ok (.new idx, 3)) (hm : nc + 1 ≤ mc ∧ ns + r.2.2 ≤ ms) (hw : mm_wf h) (hvs : mm_vs h.1.length lv st)
    (kk : mm_W d M mc ms Q (nc + 1) (ns + r.2.2) (pc + 3, lv, .ref h.1.length :: st, mm_ad h (.inr (ci, mm_df ci r.2.2)))) : mm_W d M mc ms Q nc ns (pc, lv, st, h) := by
  intro p l e s m args below meth c X ad0 n0 ad H locs ls C ha hn hR hS hl
  have C' := C
  obtain ⟨hx, hb, hml, hr, hlo, hown, hts, hnm, hT, hO⟩ := C'
  obtain ⟨hty, hnm2, hin⟩ := mm_cls hrc
  have hA : ∀ q : Nat, s.heap.size ≤ q → mm_A X q := fun q hq => Nat.le_trans hO.2.2.2.2.1 hq
  have hfs : ∀ q : Nat, mm_cv X (mm_ext ad h.1.length q) (mm_ad h (.inr (ci, mm_df ci r.2.2))) h.1.length (.inr (ci, mm_df ci r.2.2)) = .inr (ci, (List.range r.2.2).map (fun j => defaultValue (mm_ty ci j))) := by
    intro q
    simp only [mm_cv]
    congr 2
    apply List.ext_getElem?
    intro j
    rw [List.getElem?_mapIdx, List.getElem?_map]
    unfold mm_df
    rw [List.getElem?_map]
    by_cases hj : j < r.2.2
    · rw [List.getElem?_range hj, Option.map_some, Option.map_some, Option.map_some]
      have h1 := List.all_eq_true.mp hf1 j (List.mem_range.mpr hj)
      generalize mm_ty ci j = t at h1
      cases t <;> first | (cases h1; done) | rfl | exact congrArg (fun x => some (Value.int x)) mm_zero_i | exact congrArg (fun x => some (Value.long x)) mm_zero_l
    · rw [List.getElem?_eq_none (by rw [List.length_range]; omega)]
      rfl
  refine va_new (D := X.1) (cl := vwCl) (ci := ci) (C := r.1) (T := r.2.1) (N := r.2.2) (fs := (List.range r.2.2).map (fun j => defaultValue (mm_ty ci j))) hx hb hts hin (mm_ty ci) hty hown (hts _ hcl) (hts _ hib) (hts _ hini) hT.1 hR.1 hR.2.1 hS hA hrc ?_ hm.1 hm.2 hd (fun q H1 hP1 hD1 hS1 => ?_)
  · intro j hj
    simp [vp_V, hj]
  · have hag : ∀ k, k < h.1.length → mm_ext ad h.1.length q k = ad k := fun k hk => mm_ext_lt hk
    have e3 := mm_lay_ad (X := X) (ad := ad) (c' := .inr (ci, mm_df ci r.2.2)) (q := q) hw
    rw [hfs q] at e3
    have k' := kk p l e s m args below meth c X ad0 n0 (mm_ext ad h.1.length q) H1 locs ls C (fun k hk => (hag k (Nat.lt_of_lt_of_le hk hn)).trans (ha k hk)) (by show n0 ≤ (h.1 ++ [_]).length; rw [List.length_append]; exact Nat.le_trans hn (Nat.le_add_right _ _)) ⟨by rw [e3]; exact hP1, by rw [e3]; exact hD1, hR.2.2⟩ hS1 (hl.ext hag hvs.1)
    simp only [List.map_cons, mm_st_ext hag hvs.2] at k'
    rw [show mm_rv X (mm_ext ad h.1.length q) (.ref h.1.length) = .ref q from congrArg Value.ref (if_pos rfl)] at k'
    exact k'
/-- the array class of a type is one -/
theorem mm_uniq {X : mm_X} {s : State} {t : Nat} {ty : FieldType} {cA : ClassId} (hT : va_K X.1 vwCl (mm_tys X.2.1) s) (ht : (mm_tys X.2.1)[t]? = some (X.2.1 t, ty)) (hK : va_K X.1 vwCl (mm_tys X.2.1 ++ [(cA, ty)]) s) : cA = X.2.1 t := by
  have h1 := (hT.2 t _ ht).2
  have h2 := (hK.2 5 (cA, ty) rfl).2
  cases ty with
  | object C =>
    obtain ⟨_, _, _, _, _, e1⟩ := h1
    obtain ⟨_, _, _, _, _, e2⟩ := h2
    exact Option.some.inj (e2.symm.trans e1)
  | _ => exact Option.some.inj (Eq.trans (Eq.symm h2) h1)
theorem mm_addcell {nc' ns' : Nat} {c' : mm_Sh} {pc' : Nat} (hw : mm_wf h) (hvs : mm_vs h.1.length lv st) (kk : mm_W d M mc ms Q nc' ns' (pc', lv, .ref h.1.length :: st, mm_ad h c'))
    {p : Program} {l : Launch} {e : Env} {s : State} {m : MethodId} {args : Array Value} {below : List Frame} {meth : Method} {c : Code} {X : mm_X} {ad0 : Nat → Nat} {n0 : Nat} {ad : Nat → Nat} {H1 : Heap} {locs : List Loc} {ls : Array Slot} {q : Nat} {ev : va_E}
    (C : mm_C p s m args meth c M X) (ha : ∀ k, k < n0 → ad k = ad0 k) (hn : n0 ≤ h.1.length) (hR3 : h.2.2.2 = X.2.2.2.2.2) (hl : mm_lh X ad ls M.2.2.1 lv) (hev : mm_cv X (mm_ext ad h.1.length q) (mm_ad h c') h.1.length c' = ev) (hP1 : va_P X.1 vwCl (mm_lay X ad h ++ [(q, ev)]) H1) (hD1 : va_D (mm_A X) (mm_lay X ad h ++ [(q, ev)])) (hS1 : va_S (mm_A X) s.heap H1 locs) :
    W p l e (mm_R d mc ms) s m args below meth c H1 locs nc' ns' (MQ below (mm_Q X ad0 n0 Q) args s mc ms (mm_A X)) (F0 m pc' ls (.ref q :: st.map (mm_rv X ad))) := by
  have hag : ∀ k, k < h.1.length → mm_ext ad h.1.length q k = ad k := fun k hk => mm_ext_lt hk
  have e3 := mm_lay_ad (X := X) (ad := ad) (c' := c') (q := q) hw
  rw [hev] at e3
  have k' := kk p l e s m args below meth c X ad0 n0 (mm_ext ad h.1.length q) H1 locs ls C (fun k hk => (hag k (Nat.lt_of_lt_of_le hk hn)).trans (ha k hk)) (by show n0 ≤ (h.1 ++ [_]).length; rw [List.length_append]; exact Nat.le_trans hn (Nat.le_add_right _ _)) ⟨by rw [e3]; exact hP1, by rw [e3]; exact hD1, hR3⟩ hS1 (hl.ext hag hvs.1)
  simp only [List.map_cons, mm_st_ext hag hvs.2] at k'
  rw [show mm_rv X (mm_ext ad h.1.length q) (.ref h.1.length) = .ref q from congrArg Value.ref (if_pos rfl)] at k'
  exact k'
theorem mm_cell0 {X : mm_X} {ad : Nat → Nat} {t n : Nat} (ht : t < 2) : mm_cv X ad (mm_ad h (.inl (t, n))) h.1.length (.inl (t, n)) = .inl (X.2.1 t, n, .inl (fun _ => 0)) := by
  simp only [mm_cv, if_pos ht]
  congr 4
  funext i
  exact mm_zero_i
theorem mm_cellq {X : mm_X} {ad : Nat → Nat} {t n : Nat} (ht : ¬ t < 2) : mm_cv X ad (mm_ad h (.inl (t, n))) h.1.length (.inl (t, n)) = .inl (X.2.1 t, n, .inr (.inr (.inr (.inr (fun _ => none))))) := by
  simp only [mm_cv, if_neg ht]
  congr 7
  funext i
  rw [mm_zero_i]
  rfl
theorem mm_newi {n : Int32} {N : Nat} (harr : Cond.arrayClass .int ∈ mm_G) (hn0 : ¬ n < 0) (hN : n.toNatClampNeg = N) (hb0 : N ≤ 100000) (hd : decode M.2.1 pc = .ok (.newarray .int, 2)) (hm : nc + 1 ≤ mc ∧ ns + N ≤ ms) (hw : mm_wf h) (hvs : mm_vs h.1.length lv st)
    (kk : mm_W d M mc ms Q (nc + 1) (ns + N) (pc + 2, lv, .ref h.1.length :: st, mm_ad h (.inl (0, N)))) : mm_W d M mc ms Q nc ns (pc, lv, .int n :: st, h) := by
  intro p l e s m args below meth c X ad0 n0 ad H locs ls C ha hn hR hS hl
  have C' := C
  obtain ⟨hx, hb, hml, hr, hlo, hown, hts, hnm, hT, hO⟩ := C'
  have hA : ∀ q : Nat, s.heap.size ≤ q → mm_A X q := fun q hq => Nat.le_trans hO.2.2.2.2.1 hq
  refine va_newa (D := X.1) (cl := vwCl) (atype := .int) (ty := .int) (a0 := (N, .inl (fun _ => 0))) hx hb (hts _ harr) rfl hT.1 hR.1 hR.2.1 hS hA (fun cA => rfl) hn0 hN (by show N * 4 ≤ _; omega) hm.1 hm.2 hd (fun q cA H1 hK1 hP1 hD1 hS1 => ?_)
  have ec := mm_uniq (t := 0) hT.1 rfl hK1
  subst ec
  exact mm_addcell hw hvs kk C ha hn hR.2.2 hl (mm_cell0 (by decide)) hP1 hD1 hS1
theorem mm_newz {n : Int32} {N : Nat} (harr : Cond.arrayClass .boolean ∈ mm_G) (hn0 : ¬ n < 0) (hN : n.toNatClampNeg = N) (hb0 : N ≤ 100000) (hd : decode M.2.1 pc = .ok (.newarray .boolean, 2)) (hm : nc + 1 ≤ mc ∧ ns + N ≤ ms) (hw : mm_wf h) (hvs : mm_vs h.1.length lv st)
    (kk : mm_W d M mc ms Q (nc + 1) (ns + N) (pc + 2, lv, .ref h.1.length :: st, mm_ad h (.inl (1, N)))) : mm_W d M mc ms Q nc ns (pc, lv, .int n :: st, h) := by
  intro p l e s m args below meth c X ad0 n0 ad H locs ls C ha hn hR hS hl
  have C' := C
  obtain ⟨hx, hb, hml, hr, hlo, hown, hts, hnm, hT, hO⟩ := C'
  have hA : ∀ q : Nat, s.heap.size ≤ q → mm_A X q := fun q hq => Nat.le_trans hO.2.2.2.2.1 hq
  refine va_newa (D := X.1) (cl := vwCl) (atype := .boolean) (ty := .boolean) (a0 := (N, .inl (fun _ => 0))) hx hb (hts _ harr) rfl hT.1 hR.1 hR.2.1 hS hA (fun cA => rfl) hn0 hN (by show N * 1 ≤ _; omega) hm.1 hm.2 hd (fun q cA H1 hK1 hP1 hD1 hS1 => ?_)
  have ec := mm_uniq (t := 1) hT.1 rfl hK1
  subst ec
  exact mm_addcell hw hvs kk C ha hn hR.2.2 hl (mm_cell0 (by decide)) hP1 hD1 hS1
/-- an array of Texts (2), of Kinds (3) -/
theorem mm_newq {n : Int32} {N t idx : Nat} {Cn : String} (ht : t = 2 ∧ Cn = "SchoolOnRaft$Text" ∨ t = 3 ∧ Cn = "SchoolOnRaft$Kind") (hcl : Cond.classLink M.1.cls idx Cn ∈ mm_G) (hn0 : ¬ n < 0) (hN : n.toNatClampNeg = N) (hb0 : N ≤ 100000) (hd : decode M.2.1 pc = .ok (.anewarray idx, 3)) (hm : nc + 1 ≤ mc ∧ ns + N ≤ ms) (hw : mm_wf h) (hvs : mm_vs h.1.length lv st)
    (kk : mm_W d M mc ms Q (nc + 1) (ns + N) (pc + 3, lv, .ref h.1.length :: st, mm_ad h (.inl (t, N)))) : mm_W d M mc ms Q nc ns (pc, lv, .int n :: st, h) := by
  intro p l e s m args below meth c X ad0 n0 ad H locs ls C ha hn hR hS hl
  have C' := C
  obtain ⟨hx, hb, hml, hr, hlo, hown, hts, hnm, hT, hO⟩ := C'
  have hA : ∀ q : Nat, s.heap.size ≤ q → mm_A X q := fun q hq => Nat.le_trans hO.2.2.2.2.1 hq
  rcases ht with ⟨rfl, rfl⟩ | ⟨rfl, rfl⟩
  · refine va_newq (D := X.1) (cl := vwCl) hx hb hown (hts _ hcl) hT.2.2.1 hT.1 hR.1 hR.2.1 hS hA hn0 hN (by omega) hm.1 hm.2 hd (fun q cA H1 hK1 hP1 hD1 hS1 => ?_)
    have ec := mm_uniq (t := 2) hT.1 rfl hK1
    subst ec
    exact mm_addcell hw hvs kk C ha hn hR.2.2 hl (mm_cellq (by decide)) hP1 hD1 hS1
  · refine va_newq (D := X.1) (cl := vwCl) hx hb hown (hts _ hcl) hT.2.2.2.1 hT.1 hR.1 hR.2.1 hS hA hn0 hN (by omega) hm.1 hm.2 hd (fun q cA H1 hK1 hP1 hD1 hS1 => ?_)
    have ec := mm_uniq (t := 3) hT.1 rfl hK1
    subst ec
    exact mm_addcell hw hvs kk C ha hn hR.2.2 hl (mm_cellq (by decide)) hP1 hD1 hS1
/-- instanceof, of a receiver whose class is known -/
theorem mm_inst {q ci idx : Nat} {fs : List Nat} {r : vw_C} {Cn : String} {v : Int32} (hrc : vwCl[ci]? = some r) (hq : h.1[q]? = some (.inr (ci, fs))) (hcl : Cond.classLink M.1.cls idx Cn ∈ mm_G) (hv : (r.1 = Cn ∧ v = 1) ∨ (Cond.castable r.1 Cn ∈ mm_N ∧ v = 1) ∨ ((r.1, Cn) ∈ mm_nc ∧ v = 0)) (hd : decode M.2.1 pc = .ok (.instanceof idx, 3)) (kk : mm_W d M mc ms Q nc ns (pc + 3, lv, .int v :: st, h)) : mm_W d M mc ms Q nc ns (pc, lv, .ref q :: st, h) := by
  intro p l e s m args below meth c X ad0 n0 ad H locs ls C ha hn hR hS hl
  have k' := kk p l e s m args below meth c X ad0 n0 ad H locs ls C ha hn hR hS hl
  obtain ⟨hx, hb, hml, hr, hlo, hown, hts, hnm, hT, hO⟩ := C
  have hrv := va_recv hT.1 hR.1 hrc (mm_lay_at (X := X) (ad := ad) hq)
  rcases hv with ⟨h1, rfl⟩ | ⟨h1, rfl⟩ | ⟨h1, rfl⟩
  · subst h1
    exact va_instS hx hb hown (hts _ hcl) (hT.1.1 ci r hrc).2 hrv hd k'
  · exact va_instY hx hb hown (hts _ hcl) (hT.2.1 _ h1) hrv hd k'
  · exact va_instNo hx hb hown (hts _ hcl) (hT.2.2.2.2.2.1 _ h1) hrv hd k'
/-- System.arraycopy over int arrays -/
def mm_cp (g : Nat → Nat → Int32) (k0 k1 sp dp n : Nat) : Nat → Nat → Int32 := fun a b => bif a == k1 then va_cpy (g k0) (g k1) sp dp n b else g a b
theorem mm_lay_cp {X : mm_X} {ad : Nat → Nat} {k0 k1 n1 sp dp n : Nat} (hs : h.1[k1]? = some (.inl (0, n1))) : mm_lay X ad (h.1, mm_cp h.2.1 k0 k1 sp dp n, h.2.2) = (mm_lay X ad h).set k1 (ad k1, .inl (X.2.1 0, n1, .inl (va_cpy (h.2.1 k0) (h.2.1 k1) sp dp n))) := by
  refine mm_lay_set hs (mm_set_self hs) (fun j hj c => ?_) ?_
  · have e0 : mm_cp h.2.1 k0 k1 sp dp n j = h.2.1 j := by funext i; simp [mm_cp, beq_false_of_ne hj]
    cases c with
    | inl x => simp only [mm_cv, e0]
    | inr o =>
      simp only [mm_cv]
      congr 3
      funext i c
      match c with
      | 0 => simp only [mm_cF, e0]
      | 1 => rfl
      | 2 => rfl
      | c + 3 => rfl
  · have e0 : mm_cp h.2.1 k0 k1 sp dp n k1 = va_cpy (h.2.1 k0) (h.2.1 k1) sp dp n := by funext i; simp [mm_cp]
    simp only [mm_cv, e0, if_pos (show (0 : Nat) < 2 by decide)]
theorem mm_acopy {k0 k1 n0 n1 idx : Nat} {sp dp n : Int32} (hlk : Cond.methodLink M.1.cls idx arraycopyName ∈ mm_G) (hnat : Cond.native arraycopyName ∈ mm_G) (hst : Cond.static arraycopyName ∈ mm_G) (hini : Cond.initialized "java/lang/System" ∈ mm_G) (hs0 : h.1[k0]? = some (.inl (0, n0))) (hs1 : h.1[k1]? = some (.inl (0, n1))) (h1 : ¬ sp < 0) (h2 : ¬ dp < 0) (h3 : ¬ n < 0) (h4 : sp.toNatClampNeg + n.toNatClampNeg ≤ n0) (h5 : dp.toNatClampNeg + n.toNatClampNeg ≤ n1) (hdd : 1 ≤ d) (hcat : (st.map Value.category).sum ≤ 8) (hd : decode M.2.1 pc = .ok (.invokestatic idx, 3))
    (kk : mm_W d M mc ms Q nc ns (pc + 3, lv, st, (h.1, mm_cp h.2.1 k0 k1 sp.toNatClampNeg dp.toNatClampNeg n.toNatClampNeg, h.2.2))) : mm_W d M mc ms Q nc ns (pc, lv, .int n :: .int dp :: .ref k1 :: .int sp :: .ref k0 :: st, h) := by
  intro p l e s m args below meth c X ad0 n0' ad H locs ls C ha hn hR hS hl
  have C' := C
  obtain ⟨hx, hb, hml, hr, hlo, hown, hts, hnm, hT, hO⟩ := C'
  refine va_copyi (D := X.1) (cl := vwCl) hx hb (by rw [hml]; exact hl.2.1.symm) hown (hts _ hlk) (hts _ hnat) (hts _ hst) (hts _ hini) hT.1 hR.1 hR.2.1 hS k0 k1 0 0 (ty := .int) (mm_lay_at hs0) (mm_lay_at hs1) rfl rfl rfl h1 h2 h3 h4 h5 (fun _ _ => rfl) hdd ?_ hd (fun H1 locs1 hP1 hD1 hS1 => ?_)
  · have h8 := mm_cats (X := X) (ad := ad) hcat
    have h9 : nativeFrameWords "java/lang/System" "arraycopy" 5 + 11 ≤ 50 := by decide +kernel
    show _ ≤ 41 * d + 32
    omega
  · have e3 := mm_lay_cp (X := X) (ad := ad) (k0 := k0) (sp := sp.toNatClampNeg) (dp := dp.toNatClampNeg) (n := n.toNatClampNeg) hs1
    exact kk p l e s m args below meth c X ad0 n0' ad H1 locs1 ls C ha hn ⟨by rw [e3]; exact hP1, by rw [e3]; exact hD1, hR.2.2⟩ hS1 hl
end
end
section
/-! ===== links of fields and constants, by their places among the words (written by program) ===== -/
/-- pool place, class number, field number, the word's place, the class whose pool it is -/
def mm_fl : List (Nat × Nat × Nat × Nat × String) := [(10, 11, 0, 334, "SchoolOnRaft"), (19, 11, 1, 335, "SchoolOnRaft"), (26, 11, 2, 336, "SchoolOnRaft"), (33, 11, 3, 337, "SchoolOnRaft"), (37, 11, 4, 338, "SchoolOnRaft"), (41, 11, 5, 339, "SchoolOnRaft"), (45, 11, 6, 340, "SchoolOnRaft"), (50, 11, 7, 341, "SchoolOnRaft"), (53, 11, 8, 342, "SchoolOnRaft"), (56, 11, 9, 343, "SchoolOnRaft"), (65, 9, 0, 243, "SchoolOnRaft"), (75, 0, 0, 121, "SchoolOnRaft"), (108, 0, 3, 132, "SchoolOnRaft"), (111, 0, 4, 135, "SchoolOnRaft"), (114, 0, 5, 137, "SchoolOnRaft"), (130, 0, 6, 141, "SchoolOnRaft"), (133, 0, 7, 145, "SchoolOnRaft"), (136, 0, 8, 148, "SchoolOnRaft"), (148, 6, 1, 307, "SchoolOnRaft"), (151, 6, 0, 305, "SchoolOnRaft"), (154, 9, 2, 248, "SchoolOnRaft"), (161, 6, 2, 308, "SchoolOnRaft"), (164, 9, 1, 246, "SchoolOnRaft"), (168, 0, 2, 128, "SchoolOnRaft"), (175, 0, 9, 152, "SchoolOnRaft"), (200, 7, 1, 277, "SchoolOnRaft"), (203, 7, 0, 275, "SchoolOnRaft"), (228, 0, 1, 126, "SchoolOnRaft"), (293, 0, 10, 154, "SchoolOnRaft"), (9, 0, 3, 130, "SchoolOnRaft$Board"), (15, 0, 4, 133, "SchoolOnRaft$Board"), (18, 0, 5, 136, "SchoolOnRaft$Board"), (21, 0, 6, 139, "SchoolOnRaft$Board"), (24, 0, 7, 143, "SchoolOnRaft$Board"), (27, 0, 8, 147, "SchoolOnRaft$Board"), (30, 0, 9, 150, "SchoolOnRaft$Board"), (33, 0, 10, 153, "SchoolOnRaft$Board"), (42, 0, 0, 120, "SchoolOnRaft$Board"), (46, 0, 1, 124, "SchoolOnRaft$Board"), (49, 0, 2, 127, "SchoolOnRaft$Board"), (9, 6, 0, 304, "SchoolOnRaft$Reader"), (15, 6, 5, 312, "SchoolOnRaft$Reader"), (18, 6, 3, 310, "SchoolOnRaft$Reader"), (31, 6, 1, 306, "SchoolOnRaft$Reader"), (34, 6, 4, 311, "SchoolOnRaft$Reader"), (40, 6, 6, 313, "SchoolOnRaft$Reader"), (75, 6, 2, 309, "SchoolOnRaft$Reader"), (9, 7, 0, 274, "SchoolOnRaft$Search"), (15, 7, 3, 279, "SchoolOnRaft$Search"), (18, 7, 4, 280, "SchoolOnRaft$Search"), (21, 7, 5, 281, "SchoolOnRaft$Search"), (24, 7, 6, 282, "SchoolOnRaft$Search"), (27, 7, 2, 278, "SchoolOnRaft$Search"), (37, 7, 1, 276, "SchoolOnRaft$Search"), (49, 9, 0, 244, "SchoolOnRaft$Search"), (55, 0, 0, 122, "SchoolOnRaft$Search"), (64, 0, 1, 125, "SchoolOnRaft$Search"), (67, 0, 6, 140, "SchoolOnRaft$Search"), (70, 0, 7, 144, "SchoolOnRaft$Search"), (14, 9, 0, 242, "SchoolOnRaft$Spring"), (20, 9, 1, 245, "SchoolOnRaft$Spring"), (26, 9, 3, 249, "SchoolOnRaft$Spring"), (30, 9, 4, 250, "SchoolOnRaft$Spring"), (34, 9, 5, 251, "SchoolOnRaft$Spring"), (40, 9, 6, 252, "SchoolOnRaft$Spring"), (60, 9, 2, 247, "SchoolOnRaft$Spring"), (64, 0, 3, 131, "SchoolOnRaft$Spring"), (66, 0, 0, 123, "SchoolOnRaft$Spring"), (77, 0, 4, 134, "SchoolOnRaft$Spring"), (92, 10, 0, 189, "SchoolOnRaft$Spring"), (99, 10, 1, 191, "SchoolOnRaft$Spring"), (114, 10, 2, 193, "SchoolOnRaft$Spring"), (120, 0, 5, 138, "SchoolOnRaft$Spring"), (141, 0, 9, 151, "SchoolOnRaft$Spring"), (148, 0, 6, 142, "SchoolOnRaft$Spring"), (151, 0, 7, 146, "SchoolOnRaft$Spring"), (161, 0, 2, 129, "SchoolOnRaft$Spring"), (164, 0, 8, 149, "SchoolOnRaft$Spring"), (7, 10, 0, 188, "SchoolOnRaft$Text"), (13, 10, 1, 190, "SchoolOnRaft$Text"), (16, 10, 2, 192, "SchoolOnRaft$Text"), (13, 12, 1, 940, "SchoolOnRaftModel"), (17, 12, 2, 941, "SchoolOnRaftModel"), (20, 12, 5, 944, "SchoolOnRaftModel"), (23, 12, 7, 946, "SchoolOnRaftModel"), (26, 12, 8, 947, "SchoolOnRaftModel"), (29, 12, 9, 948, "SchoolOnRaftModel"), (32, 12, 11, 950, "SchoolOnRaftModel"), (35, 12, 12, 951, "SchoolOnRaftModel"), (38, 12, 13, 952, "SchoolOnRaftModel"), (41, 12, 15, 954, "SchoolOnRaftModel"), (44, 12, 31, 970, "SchoolOnRaftModel"), (47, 12, 32, 971, "SchoolOnRaftModel"), (50, 12, 33, 972, "SchoolOnRaftModel"), (53, 12, 34, 973, "SchoolOnRaftModel"), (56, 12, 35, 974, "SchoolOnRaftModel"), (59, 12, 36, 975, "SchoolOnRaftModel"), (62, 12, 37, 976, "SchoolOnRaftModel"), (65, 12, 38, 977, "SchoolOnRaftModel"), (68, 12, 40, 979, "SchoolOnRaftModel"), (71, 12, 41, 980, "SchoolOnRaftModel"), (74, 12, 42, 981, "SchoolOnRaftModel"), (77, 12, 45, 984, "SchoolOnRaftModel"), (81, 12, 46, 985, "SchoolOnRaftModel"), (84, 12, 47, 986, "SchoolOnRaftModel"), (87, 12, 48, 987, "SchoolOnRaftModel"), (94, 12, 3, 942, "SchoolOnRaftModel"), (97, 12, 10, 949, "SchoolOnRaftModel"), (104, 12, 14, 953, "SchoolOnRaftModel"), (135, 12, 6, 945, "SchoolOnRaftModel"), (138, 12, 23, 962, "SchoolOnRaftModel"), (141, 12, 22, 961, "SchoolOnRaftModel"), (144, 12, 24, 963, "SchoolOnRaftModel"), (150, 12, 26, 965, "SchoolOnRaftModel"), (153, 12, 25, 964, "SchoolOnRaftModel"), (164, 12, 27, 966, "SchoolOnRaftModel"), (170, 12, 29, 968, "SchoolOnRaftModel"), (174, 12, 30, 969, "SchoolOnRaftModel"), (181, 12, 28, 967, "SchoolOnRaftModel"), (194, 12, 16, 955, "SchoolOnRaftModel"), (197, 12, 17, 956, "SchoolOnRaftModel"), (200, 12, 18, 957, "SchoolOnRaftModel"), (203, 12, 19, 958, "SchoolOnRaftModel"), (206, 12, 20, 959, "SchoolOnRaftModel"), (209, 12, 21, 960, "SchoolOnRaftModel"), (253, 12, 4, 943, "SchoolOnRaftModel"), (310, 12, 39, 978, "SchoolOnRaftModel"), (344, 12, 43, 982, "SchoolOnRaftModel"), (347, 12, 44, 983, "SchoolOnRaftModel")]
def mm_cl : List (Nat × Value × Nat × String) := [(252, .long (-4611686018427387904), 869, "SchoolOnRaft"), (302, .int 1103515245, 864, "SchoolOnRaft"), (107, .long 5, 1092, "SchoolOnRaftModel"), (109, .long 9, 1096, "SchoolOnRaftModel"), (111, .long 99, 1101, "SchoolOnRaftModel"), (113, .long 14, 1102, "SchoolOnRaftModel"), (115, .long 4, 1107, "SchoolOnRaftModel"), (124, .long 7, 1120, "SchoolOnRaftModel"), (133, .long 255, 1141, "SchoolOnRaftModel"), (156, .long 97, 1158, "SchoolOnRaftModel"), (158, .long 122, 1159, "SchoolOnRaftModel"), (160, .long 48, 1160, "SchoolOnRaftModel"), (162, .long 57, 1161, "SchoolOnRaftModel"), (168, .long 10, 1162, "SchoolOnRaftModel"), (232, .long 43, 1215, "SchoolOnRaftModel"), (240, .long 60, 1216, "SchoolOnRaftModel"), (313, .long 6, 1295, "SchoolOnRaftModel"), (318, .long 2, 1312, "SchoolOnRaftModel"), (335, .int 1103515245, 1365, "SchoolOnRaftModel"), (340, .long 20, 1370, "SchoolOnRaftModel"), (342, .long (-4611686018427387904), 1371, "SchoolOnRaftModel"), (350, .long 3, 1336, "SchoolOnRaftModel"), (352, .long (-1), 1388, "SchoolOnRaftModel"), (265, .int 1431655765, 693, "java/lang/Integer"), (266, .int 858993459, 694, "java/lang/Integer"), (267, .int 252645135, 695, "java/lang/Integer")]
end
section
/-! ===== an instruction by evaluation; a stretch of them ===== -/
def mm_flk (q : Nat × Nat × Nat × Nat × String) : Bool := match vwCl[q.2.1]? with
  | some c => decide (q.2.2.1 < c.2.2) && decide (lw_tbl[q.2.2.2.1]? = some (.fieldLink q.2.2.2.2 q.1 c.1 (c.2.1 q.2.2.1).2.1 (c.2.1 q.2.2.1).2.2.1)) && decide ((c.2.1 q.2.2.1).1 = c.1)
  | none => false
theorem mm_fl_ok : mm_fl.all mm_flk = true := by decide +kernel
def mm_fm (own : String) (idx ci y : Nat) : Bool := mm_fl.any (fun q => q.1 == idx && (q.2.1 == ci && (q.2.2.1 == y && decide (q.2.2.2.2 = own))))
theorem mm_fm_lk {own : String} {idx ci y : Nat} (h : mm_fm own idx ci y = true) : mm_lk own idx ci y := by
  obtain ⟨q, hq, h1⟩ := List.any_eq_true.mp h
  simp only [Bool.and_eq_true, beq_iff_eq, decide_eq_true_eq] at h1
  obtain ⟨e1, e2, e3, e4⟩ := h1
  have h2 := List.all_eq_true.mp mm_fl_ok q hq
  unfold mm_flk at h2
  rw [e1, e2, e3, e4] at h2
  split at h2
  · rename_i c hc
    simp only [Bool.and_eq_true, decide_eq_true_eq] at h2
    exact ⟨c, hc, h2.1.1, mm_wat _ h2.1.2 rfl, h2.2⟩
  · cases h2
def mm_clk (q : Nat × Value × Nat × String) : Bool := match q.2.1 with
  | .int a => decide (lw_tbl[q.2.2.1]? = some (.constant q.2.2.2 q.1 a))
  | .long a => decide (lw_tbl[q.2.2.1]? = some (.constantLong q.2.2.2 q.1 a))
  | _ => false
theorem mm_cl_ok : mm_cl.all mm_clk = true := by decide +kernel
def mm_cm (own : String) (idx : Nat) (v : Value) : Bool := mm_cl.any (fun q => q.1 == idx && (decide (q.2.1 = v) && decide (q.2.2.2 = own)))
theorem mm_cm_i {own : String} {idx : Nat} {a : Int32} (h : mm_cm own idx (.int a) = true) : Cond.constant own idx a ∈ mm_G := by
  obtain ⟨q, hq, h1⟩ := List.any_eq_true.mp h
  simp only [Bool.and_eq_true, beq_iff_eq, decide_eq_true_eq] at h1
  obtain ⟨e1, e2, e3⟩ := h1
  have h2 := List.all_eq_true.mp mm_cl_ok q hq
  unfold mm_clk at h2
  rw [e1, e2, e3] at h2
  exact mm_wat _ (of_decide_eq_true h2) rfl
theorem mm_cm_l {own : String} {idx : Nat} {a : Int64} (h : mm_cm own idx (.long a) = true) : Cond.constantLong own idx a ∈ mm_G := by
  obtain ⟨q, hq, h1⟩ := List.any_eq_true.mp h
  simp only [Bool.and_eq_true, beq_iff_eq, decide_eq_true_eq] at h1
  obtain ⟨e1, e2, e3⟩ := h1
  have h2 := List.all_eq_true.mp mm_cl_ok q hq
  unfold mm_clk at h2
  rw [e1, e2, e3] at h2
  exact mm_wat _ (of_decide_eq_true h2) rfl
def mm_ff (M : mm_M) (ci y : Nat) : Bool := match vwCl[ci]? with
  | some c => !(c.2.1 y).2.2.2 || (decide (M.1.name = "<init>") && decide (c.1 = M.1.cls))
  | none => false
/-- a row of a method's code is as the bytes say -/
def mm_k2 (M : mm_M) (pc : Nat) (i : Instr) (len x y : Nat) (v : Value) : Bool := match i with
  | .iconst n => len == 1 && decide (v = .int (Int32.ofInt n))
  | .bipush n => len == 2 && decide (v = .int (Int8.ofInt n).toInt32)
  | .sipush n => len == 3 && decide (v = .int (Int16.ofInt n).toInt32)
  | .lconst n => len == 1 && decide (v = .long (Int64.ofNat (n : Nat)))
  | .aconst_null => len == 1 && decide (v = .null)
  | .ldc n => len == 2 && (match v with
    | .int a => mm_cm M.1.cls n (.int a)
    | .retAddr j => decide (M.1.cls = "SchoolOnRaft$Reader") && decide ((mm_str[j]?).map Prod.fst = some n)
    | _ => false)
  | .ldc_w n => len == 3 && (match v with
    | .int a => mm_cm M.1.cls n (.int a)
    | _ => false)
  | .ldc2_w n => len == 3 && (match v with
    | .long a => mm_cm M.1.cls n (.long a)
    | _ => false)
  | .iload n => len == 2 && n == x
  | .lload n => len == 2 && n == x
  | .aload n => len == 2 && n == x
  | .istore n => len == 2 && n == x
  | .lstore n => len == 2 && n == x
  | .astore n => len == 2 && n == x
  | .iload_n n => len == 1 && (n : Nat) == x
  | .lload_n n => len == 1 && (n : Nat) == x
  | .aload_n n => len == 1 && (n : Nat) == x
  | .istore_n n => len == 1 && (n : Nat) == x
  | .lstore_n n => len == 1 && (n : Nat) == x
  | .astore_n n => len == 1 && (n : Nat) == x
  | .iinc n c => len == 3 && (n == x && decide (v = .int (Int32.ofInt c)))
  | .goto o => len == 3 && decide ((pc : Int) + o = (y : Int))
  | .ifCond _ o => len == 3 && decide ((pc : Int) + o = (y : Int))
  | .if_icmp _ o => len == 3 && decide ((pc : Int) + o = (y : Int))
  | .ifnull o => len == 3 && decide ((pc : Int) + o = (y : Int))
  | .ifnonnull o => len == 3 && decide ((pc : Int) + o = (y : Int))
  | .getfield n => len == 3 && (x == 99 || mm_fm M.1.cls n x y)
  | .putfield n => len == 3 && (mm_fm M.1.cls n x y && mm_ff M x y)
  | _ => true
def mm_k (M : mm_M) (e : mm_E) : Bool := decide (decode M.2.1 e.1 = .ok (e.2.1, e.2.2.1)) && mm_k2 M e.1 e.2.1 e.2.2.1 e.2.2.2.1 e.2.2.2.2.1 e.2.2.2.2.2
/-- the value of an array's place, of a field: what the picture says -/
def mm_gf (h : mm_Hp) (k x y : Nat) : Option Value := match h.1[k]? with
  | some (.inr (ci, fs)) => bif ci == x then (match fs[y]? with
    | some c => some (mm_vF h k y c)
    | none => none) else none
  | _ => none
def mm_wr (h : mm_Hp) (k x y : Nat) (v : Value) : Option (List Prop × mm_Hp) := match h.1[k]? with
  | some (.inr (ci, fs)) => bif ci == x then (match fs[y]? with
    | some c => mm_pf h k y x fs (mm_ty x y) v c
    | none => none) else none
  | _ => none
def mm_x1 (i : Instr) (pc len x y : Nat) (v : Value) (lv : mm_L) (st : List Value) (h : mm_Hp) : Option (List Prop × mm_S) :=
  match i with
  | .iconst _ => some ([], pc + len, lv, v :: st, h)
  | .bipush _ => some ([], pc + len, lv, v :: st, h)
  | .sipush _ => some ([], pc + len, lv, v :: st, h)
  | .lconst _ => some ([], pc + len, lv, v :: st, h)
  | .aconst_null => some ([], pc + len, lv, v :: st, h)
  | .ldc _ => some ([], pc + len, lv, v :: st, h)
  | .ldc_w _ => some ([], pc + len, lv, v :: st, h)
  | .ldc2_w _ => some ([], pc + len, lv, v :: st, h)
  | .iload _ => match lv[x]? with
    | some (some (.int a)) => some ([], pc + len, lv, .int a :: st, h)
    | _ => none
  | .iload_n _ => match lv[x]? with
    | some (some (.int a)) => some ([], pc + len, lv, .int a :: st, h)
    | _ => none
  | .lload _ => match lv[x]? with
    | some (some (.long a)) => some ([], pc + len, lv, .long a :: st, h)
    | _ => none
  | .lload_n _ => match lv[x]? with
    | some (some (.long a)) => some ([], pc + len, lv, .long a :: st, h)
    | _ => none
  | .aload _ => match lv[x]? with
    | some (some w) => bif mm_isr w then some ([], pc + len, lv, w :: st, h) else none
    | _ => none
  | .aload_n _ => match lv[x]? with
    | some (some w) => bif mm_isr w then some ([], pc + len, lv, w :: st, h) else none
    | _ => none
  | .istore _ => match st with
    | .int a :: r => bif mm_pr lv x && Nat.blt x lv.length then some ([], pc + len, lv.set x (some (.int a)), r, h) else none
    | _ => none
  | .istore_n _ => match st with
    | .int a :: r => bif mm_pr lv x && Nat.blt x lv.length then some ([], pc + len, lv.set x (some (.int a)), r, h) else none
    | _ => none
  | .lstore _ => match st with
    | .long a :: r => bif mm_pr lv x && Nat.blt (x + 1) lv.length then some ([], pc + len, (lv.set x (some (.long a))).set (x + 1) none, r, h) else none
    | _ => none
  | .lstore_n _ => match st with
    | .long a :: r => bif mm_pr lv x && Nat.blt (x + 1) lv.length then some ([], pc + len, (lv.set x (some (.long a))).set (x + 1) none, r, h) else none
    | _ => none
  | .astore _ => match st with
    | w :: r => bif mm_isr w && (mm_pr lv x && Nat.blt x lv.length) then some ([], pc + len, lv.set x (some w), r, h) else none
    | _ => none
  | .astore_n _ => match st with
    | w :: r => bif mm_isr w && (mm_pr lv x && Nat.blt x lv.length) then some ([], pc + len, lv.set x (some w), r, h) else none
    | _ => none
  | .iinc _ _ => match lv[x]?, v with
    | some (some (.int a)), .int c => bif mm_pr lv x then some ([], pc + 3, lv.set x (some (.int (a + c))), st, h) else none
    | _, _ => none
  | .goto _ => some ([], y, lv, st, h)
  | .getfield _ => match st with
    | .ref k :: r => match mm_gf h k x y with
      | some w => bif x == 99 then none else some ([], pc + 3, lv, w :: r, h)
      | none => none
    | _ => none
  | .putfield _ => match st with
    | w :: .ref k :: r => match mm_wr h k x y w with
      | some (cs, h') => some (cs, pc + 3, lv, r, h')
      | none => none
    | _ => none
  | .iaload => match st with
    | .int a :: .ref k :: r => match h.1[k]? with
      | some (.inl (0, n)) => bif len == 1 then some ([vp_in a n], pc + 1, lv, .int (h.2.1 k a.toNatClampNeg) :: r, h) else none
      | _ => none
    | .int a :: .float _ :: r => bif len == 1 then some ([vp_in a h.2.2.2.1], pc + 1, lv, .int (h.2.2.2.2 a.toNatClampNeg) :: r, h) else none
    | _ => none
  | .baload => match st with
    | .int a :: .ref k :: r => match h.1[k]? with
      | some (.inl (1, n)) => bif len == 1 then some ([vp_in a n], pc + 1, lv, .int (h.2.1 k a.toNatClampNeg) :: r, h) else none
      | _ => none
    | _ => none
  | .iastore => match st with
    | .int b :: .int a :: .ref k :: r => match h.1[k]? with
      | some (.inl (0, n)) => bif len == 1 then some ([vp_in a n], pc + 1, lv, r, h.1, mm_up h.2.1 k a.toNatClampNeg b, h.2.2) else none
      | _ => none
    | _ => none
  | .bastore => match st with
    | .int b :: .int a :: .ref k :: r => match h.1[k]? with
      | some (.inl (1, n)) => bif len == 1 then some ([vp_in a n, vp_nar .boolean b = b], pc + 1, lv, r, h.1, mm_up h.2.1 k a.toNatClampNeg b, h.2.2) else none
      | _ => none
    | _ => none
  | .arraylength => match st with
    | .ref k :: r => match h.1[k]? with
      | some (.inl (t, n)) => bif len == 1 && Nat.blt t 5 then some ([], pc + 1, lv, .int (nI n) :: r, h) else none
      | _ => none
    | .float _ :: r => bif len == 1 then some ([], pc + 1, lv, .int (nI h.2.2.2.1) :: r, h) else none
    | _ => none
  | i => match mm_op i st with
    | some (cs, st') => bif len == 1 then some (cs, pc + 1, lv, st', h) else none
    | none => none
/-- a stretch of rows -/
def mm_xs : List mm_E → mm_S → Option (List Prop × mm_S)
  | [], s => some ([], s)
  | e :: es, s => bif s.1 == e.1 then (match mm_x1 e.2.1 e.1 e.2.2.1 e.2.2.2.1 e.2.2.2.2.1 e.2.2.2.2.2 s.2.1 s.2.2.1 s.2.2.2 with
    | some (cs, s1) => match mm_xs es s1 with
      | some (cs', s2) => some (cs ++ cs', s2)
      | none => none
    | none => none) else none
end
section
/-! ===== the evaluation is sound ===== -/
section
variable {d : Nat} {M : mm_M} {mc ms : Nat} {Q : Option Value → mm_Hp → Prop} {nc ns pc : Nat} {lv : mm_L} {st : List Value} {h : mm_Hp}
theorem mm_ldc_s {n j : Nat} (ho : M.1.cls = "SchoolOnRaft$Reader") (hj : (mm_str[j]?).map Prod.fst = some n) (hd : decode M.2.1 pc = .ok (.ldc n, 2)) (k : mm_W d M mc ms Q nc ns (pc + 2, lv, .retAddr j :: st, h)) : mm_W d M mc ms Q nc ns (pc, lv, st, h) := by
  intro p l e s m args below meth c X ad0 n0 ad H locs ls C ha hn hR hS hl
  have k' := k p l e s m args below meth c X ad0 n0 ad H locs ls C ha hn hR hS hl
  obtain ⟨hx, hb, hml, hr, hlo, hown, hts, hnm, hT, hO⟩ := C
  cases hq : mm_str[j]? with
  | none => rw [hq] at hj; cases hj
  | some q =>
    rw [hq] at hj
    cases hj
    rw [ho] at hown
    have hj12 : j < 12 := (List.getElem?_eq_some_iff.mp hq).1
    have e0 : mm_rv X ad (.retAddr j) = .ref (X.2.2.2.1.1 j) := by
      have : Nat.ble 100 j = false := by
        cases h9 : Nat.ble 100 j with
        | false => rfl
        | true => have := Nat.le_of_ble_eq_true h9; omega
      simp [mm_rv, this]
    simp only [List.map_cons, e0] at k'
    exact va_ldcS hx hb hown (hT.2.2.2.2.2.2 j q hq) hd k'
theorem mm_cst {i : Instr} {len x y : Nat} {v : Value} (hi : i = .aconst_null ∨ (∃ n, i = .iconst n) ∨ (∃ n, i = .bipush n) ∨ (∃ n, i = .sipush n) ∨ (∃ n, i = .lconst n) ∨ (∃ n, i = .ldc n) ∨ (∃ n, i = .ldc_w n) ∨ ∃ n, i = .ldc2_w n) (hd : decode M.2.1 pc = .ok (i, len)) (hk : mm_k2 M pc i len x y v = true) (k : mm_W d M mc ms Q nc ns (pc + len, lv, v :: st, h)) : mm_W d M mc ms Q nc ns (pc, lv, st, h) := by
  rcases hi with rfl | ⟨n, rfl⟩ | ⟨n, rfl⟩ | ⟨n, rfl⟩ | ⟨n, rfl⟩ | ⟨n, rfl⟩ | ⟨n, rfl⟩ | ⟨n, rfl⟩
  · simp only [mm_k2, Bool.and_eq_true, beq_iff_eq, decide_eq_true_eq] at hk
    obtain ⟨rfl, rfl⟩ := hk
    intro p l e s m args below meth c X ad0 n0 ad H locs ls C ha hn hR hS hl
    exact lv_null C.1 C.2.1 hd (k p l e s m args below meth c X ad0 n0 ad H locs ls C ha hn hR hS hl)
  · simp only [mm_k2, Bool.and_eq_true, beq_iff_eq, decide_eq_true_eq] at hk
    obtain ⟨rfl, rfl⟩ := hk
    intro p l e s m args below meth c X ad0 n0 ad H locs ls C ha hn hR hS hl
    exact lv_iconst C.1 C.2.1 hd rfl (k p l e s m args below meth c X ad0 n0 ad H locs ls C ha hn hR hS hl)
  · simp only [mm_k2, Bool.and_eq_true, beq_iff_eq, decide_eq_true_eq] at hk
    obtain ⟨rfl, rfl⟩ := hk
    intro p l e s m args below meth c X ad0 n0 ad H locs ls C ha hn hR hS hl
    exact lv_bipush C.1 C.2.1 hd rfl (k p l e s m args below meth c X ad0 n0 ad H locs ls C ha hn hR hS hl)
  · simp only [mm_k2, Bool.and_eq_true, beq_iff_eq, decide_eq_true_eq] at hk
    obtain ⟨rfl, rfl⟩ := hk
    intro p l e s m args below meth c X ad0 n0 ad H locs ls C ha hn hR hS hl
    exact lv_sipush C.1 C.2.1 hd rfl (k p l e s m args below meth c X ad0 n0 ad H locs ls C ha hn hR hS hl)
  · simp only [mm_k2, Bool.and_eq_true, beq_iff_eq, decide_eq_true_eq] at hk
    obtain ⟨rfl, rfl⟩ := hk
    intro p l e s m args below meth c X ad0 n0 ad H locs ls C ha hn hR hS hl
    exact lv_lconst C.1 C.2.1 hd rfl (k p l e s m args below meth c X ad0 n0 ad H locs ls C ha hn hR hS hl)
  · simp only [mm_k2, Bool.and_eq_true, beq_iff_eq] at hk
    obtain ⟨rfl, h1⟩ := hk
    cases v with
    | int a =>
      intro p l e s m args below meth c X ad0 n0 ad H locs ls C ha hn hR hS hl
      exact lv_ldc C.1 C.2.1 C.2.2.2.2.2.1 (C.2.2.2.2.2.2.1 _ (mm_cm_i h1)) hd (k p l e s m args below meth c X ad0 n0 ad H locs ls C ha hn hR hS hl)
    | retAddr j =>
      simp only [Bool.and_eq_true, decide_eq_true_eq] at h1
      exact mm_ldc_s h1.1 h1.2 hd k
    | _ => cases h1
  · simp only [mm_k2, Bool.and_eq_true, beq_iff_eq] at hk
    obtain ⟨rfl, h1⟩ := hk
    cases v with
    | int a =>
      intro p l e s m args below meth c X ad0 n0 ad H locs ls C ha hn hR hS hl
      exact lv_ldcw C.1 C.2.1 C.2.2.2.2.2.1 (C.2.2.2.2.2.2.1 _ (mm_cm_i h1)) hd (k p l e s m args below meth c X ad0 n0 ad H locs ls C ha hn hR hS hl)
    | _ => cases h1
  · simp only [mm_k2, Bool.and_eq_true, beq_iff_eq] at hk
    obtain ⟨rfl, h1⟩ := hk
    cases v with
    | long a =>
      intro p l e s m args below meth c X ad0 n0 ad H locs ls C ha hn hR hS hl
      exact lv_ldc2 C.1 C.2.1 C.2.2.2.2.2.1 (C.2.2.2.2.2.2.1 _ (mm_cm_l h1)) hd (k p l e s m args below meth c X ad0 n0 ad H locs ls C ha hn hR hS hl)
    | _ => cases h1
theorem mm_x1_ok {i : Instr} {len x y : Nat} {v : Value} {cs : List Prop} {s' : mm_S} (hd : decode M.2.1 pc = .ok (i, len)) (hk : mm_k2 M pc i len x y v = true) (hx : mm_x1 i pc len x y v lv st h = some (cs, s')) (hc : mm_all cs) (k : mm_W d M mc ms Q nc ns s') : mm_W d M mc ms Q nc ns (pc, lv, st, h) := by
  unfold mm_x1 at hx
  split at hx
  · cases hx; exact mm_cst (Or.inr (Or.inl ⟨_, rfl⟩)) hd hk k
  · cases hx; exact mm_cst (Or.inr (Or.inr (Or.inl ⟨_, rfl⟩))) hd hk k
  · cases hx; exact mm_cst (Or.inr (Or.inr (Or.inr (Or.inl ⟨_, rfl⟩)))) hd hk k
  · cases hx; exact mm_cst (Or.inr (Or.inr (Or.inr (Or.inr (Or.inl ⟨_, rfl⟩))))) hd hk k
  · cases hx; exact mm_cst (Or.inl rfl) hd hk k
  · cases hx; exact mm_cst (Or.inr (Or.inr (Or.inr (Or.inr (Or.inr (Or.inl ⟨_, rfl⟩)))))) hd hk k
  · cases hx; exact mm_cst (Or.inr (Or.inr (Or.inr (Or.inr (Or.inr (Or.inr (Or.inl ⟨_, rfl⟩))))))) hd hk k
  · cases hx; exact mm_cst (Or.inr (Or.inr (Or.inr (Or.inr (Or.inr (Or.inr (Or.inr ⟨_, rfl⟩))))))) hd hk k
  · simp only [mm_k2, Bool.and_eq_true, beq_iff_eq] at hk
    obtain ⟨rfl, rfl⟩ := hk
    split at hx
    · rename_i ha; cases hx; exact mm_ldi ha (Or.inl ⟨hd, rfl⟩) k
    · cases hx
  · simp only [mm_k2, Bool.and_eq_true, beq_iff_eq] at hk
    obtain ⟨rfl, rfl⟩ := hk
    split at hx
    · rename_i ha; cases hx; exact mm_ldi ha (Or.inr ⟨_, rfl, hd, rfl⟩) k
    · cases hx
  · simp only [mm_k2, Bool.and_eq_true, beq_iff_eq] at hk
    obtain ⟨rfl, rfl⟩ := hk
    split at hx
    · rename_i ha; cases hx; exact mm_ldl ha (Or.inl ⟨hd, rfl⟩) k
    · cases hx
  · simp only [mm_k2, Bool.and_eq_true, beq_iff_eq] at hk
    obtain ⟨rfl, rfl⟩ := hk
    split at hx
    · rename_i ha; cases hx; exact mm_ldl ha (Or.inr ⟨_, rfl, hd, rfl⟩) k
    · cases hx
  · simp only [mm_k2, Bool.and_eq_true, beq_iff_eq] at hk
    obtain ⟨rfl, rfl⟩ := hk
    split at hx
    · rename_i w ha
      cases hr : mm_isr w with
      | false => rw [hr] at hx; cases hx
      | true => rw [hr] at hx; cases hx; exact mm_lda ha hr (Or.inl ⟨hd, rfl⟩) k
    · cases hx
  · simp only [mm_k2, Bool.and_eq_true, beq_iff_eq] at hk
    obtain ⟨rfl, rfl⟩ := hk
    split at hx
    · rename_i w ha
      cases hr : mm_isr w with
      | false => rw [hr] at hx; cases hx
      | true => rw [hr] at hx; cases hx; exact mm_lda ha hr (Or.inr ⟨_, rfl, hd, rfl⟩) k
    · cases hx
  · simp only [mm_k2, Bool.and_eq_true, beq_iff_eq] at hk
    obtain ⟨rfl, rfl⟩ := hk
    split at hx
    · simp only [Bool.cond_eq_ite] at hx
      split at hx
      · rename_i hr
        cases hx
        rw [Bool.and_eq_true] at hr
        exact mm_sti hr.1 (Nat.blt_eq.mp hr.2) (Or.inl ⟨hd, rfl⟩) k
      · cases hx
    · cases hx
  · simp only [mm_k2, Bool.and_eq_true, beq_iff_eq] at hk
    obtain ⟨rfl, rfl⟩ := hk
    split at hx
    · simp only [Bool.cond_eq_ite] at hx
      split at hx
      · rename_i hr
        cases hx
        rw [Bool.and_eq_true] at hr
        exact mm_sti hr.1 (Nat.blt_eq.mp hr.2) (Or.inr ⟨_, rfl, hd, rfl⟩) k
      · cases hx
    · cases hx
  · simp only [mm_k2, Bool.and_eq_true, beq_iff_eq] at hk
    obtain ⟨rfl, rfl⟩ := hk
    split at hx
    · simp only [Bool.cond_eq_ite] at hx
      split at hx
      · rename_i hr
        cases hx
        rw [Bool.and_eq_true] at hr
        exact mm_stl hr.1 (Nat.blt_eq.mp hr.2) (Or.inl ⟨hd, rfl⟩) k
      · cases hx
    · cases hx
  · simp only [mm_k2, Bool.and_eq_true, beq_iff_eq] at hk
    obtain ⟨rfl, rfl⟩ := hk
    split at hx
    · simp only [Bool.cond_eq_ite] at hx
      split at hx
      · rename_i hr
        cases hx
        rw [Bool.and_eq_true] at hr
        exact mm_stl hr.1 (Nat.blt_eq.mp hr.2) (Or.inr ⟨_, rfl, hd, rfl⟩) k
      · cases hx
    · cases hx
  · simp only [mm_k2, Bool.and_eq_true, beq_iff_eq] at hk
    obtain ⟨rfl, rfl⟩ := hk
    split at hx
    · simp only [Bool.cond_eq_ite] at hx
      split at hx
      · rename_i hr
        cases hx
        rw [Bool.and_eq_true, Bool.and_eq_true] at hr
        exact mm_sta hr.1 hr.2.1 (Nat.blt_eq.mp hr.2.2) (Or.inl ⟨hd, rfl⟩) k
      · cases hx
    · cases hx
  · simp only [mm_k2, Bool.and_eq_true, beq_iff_eq] at hk
    obtain ⟨rfl, rfl⟩ := hk
    split at hx
    · simp only [Bool.cond_eq_ite] at hx
      split at hx
      · rename_i hr
        cases hx
        rw [Bool.and_eq_true, Bool.and_eq_true] at hr
        exact mm_sta hr.1 hr.2.1 (Nat.blt_eq.mp hr.2.2) (Or.inr ⟨_, rfl, hd, rfl⟩) k
      · cases hx
    · cases hx
  · simp only [mm_k2, Bool.and_eq_true, beq_iff_eq, decide_eq_true_eq] at hk
    obtain ⟨rfl, rfl, rfl⟩ := hk
    split at hx
    · rename_i ha hb
      cases hb
      simp only [Bool.cond_eq_ite] at hx
      split at hx
      · rename_i hr
        cases hx
        exact mm_inc ha rfl hr hd k
      · cases hx
    · cases hx
  · simp only [mm_k2, Bool.and_eq_true, beq_iff_eq, decide_eq_true_eq] at hk
    obtain ⟨rfl, ht⟩ := hk
    cases hx
    exact mm_goto hd ht k
  · simp only [mm_k2, Bool.and_eq_true, beq_iff_eq] at hk
    obtain ⟨rfl, h1⟩ := hk
    split at hx
    · rename_i n q r
      split at hx
      · rename_i w hw
        cases h9 : x == 99 with
        | true => rw [h9] at hx; cases hx
        | false =>
          rw [h9] at hx; cases hx
          rw [h9, Bool.false_or] at h1
          unfold mm_gf at hw
          split at hw
          · rename_i ci fs hs
            cases hci : ci == x with
            | false => rw [hci] at hw; cases hw
            | true =>
              rw [hci] at hw
              have e : ci = x := by simpa using hci
              subst e
              simp only [cond_true] at hw
              split at hw
              · rename_i cd hf
                cases hw
                exact mm_get (mm_fm_lk h1) hs hf hd k
              · cases hw
          · cases hw
      · cases hx
    · cases hx
  · simp only [mm_k2, Bool.and_eq_true, beq_iff_eq] at hk
    obtain ⟨rfl, h1, h2⟩ := hk
    split at hx
    · rename_i n w q r
      split at hx
      · rename_i cs1 h' hw
        cases hx
        unfold mm_wr at hw
        split at hw
        · rename_i ci fs hs
          cases hci : ci == x with
          | false => rw [hci] at hw; cases hw
          | true =>
            rw [hci] at hw
            have e : ci = x := by simpa using hci
            subst e
            simp only [cond_true] at hw
            split at hw
            · rename_i cd hf
              refine mm_put (mm_fm_lk h1) ?_ hs hf hw hc hd k
              intro q hq hfin
              unfold mm_ff at h2
              rw [hq] at h2
              simp only [hfin, Bool.not_true, Bool.false_or, Bool.and_eq_true, decide_eq_true_eq] at h2
              exact h2
            · cases hw
        · cases hw
      · cases hx
    · cases hx
  · split at hx
    · rename_i a q r
      split at hx
      · rename_i n hs
        cases hl : len == 1 with
        | false => rw [hl] at hx; cases hx
        | true =>
          rw [hl] at hx; cases hx
          have e : len = 1 := by simpa using hl
          subst e
          exact mm_iald hs hc hd k
      · cases hx
    · rename_i a u r
      cases hl : len == 1 with
      | false => rw [hl] at hx; cases hx
      | true =>
        rw [hl] at hx; cases hx
        have e : len = 1 := by simpa using hl
        subst e
        exact mm_sald hc hd k
    · cases hx
  · split at hx
    · rename_i a q r
      split at hx
      · rename_i n hs
        cases hl : len == 1 with
        | false => rw [hl] at hx; cases hx
        | true =>
          rw [hl] at hx; cases hx
          have e : len = 1 := by simpa using hl
          subst e
          exact mm_zald hs hc hd k
      · cases hx
    · cases hx
  · split at hx
    · rename_i b a q r
      split at hx
      · rename_i n hs
        cases hl : len == 1 with
        | false => rw [hl] at hx; cases hx
        | true =>
          rw [hl] at hx; cases hx
          have e : len = 1 := by simpa using hl
          subst e
          exact mm_iast hs hc hd k
      · cases hx
    · cases hx
  · split at hx
    · rename_i b a q r
      split at hx
      · rename_i n hs
        cases hl : len == 1 with
        | false => rw [hl] at hx; cases hx
        | true =>
          rw [hl] at hx; cases hx
          have e : len = 1 := by simpa using hl
          subst e
          exact mm_zast hs hc.1 hc.2 hd k
      · cases hx
    · cases hx
  · split at hx
    · rename_i q r
      split at hx
      · rename_i t n hs
        cases hl : len == 1 && Nat.blt t 5 with
        | false => rw [hl] at hx; cases hx
        | true =>
          rw [hl] at hx; cases hx
          rw [Bool.and_eq_true] at hl
          have e : len = 1 := by simpa using hl.1
          subst e
          exact mm_ialn (Nat.blt_eq.mp hl.2) hs hd k
      · cases hx
    · rename_i u r
      cases hl : len == 1 with
      | false => rw [hl] at hx; cases hx
      | true =>
        rw [hl] at hx; cases hx
        have e : len = 1 := by simpa using hl
        subst e
        exact mm_slen hd k
    · cases hx
  · split at hx
    · rename_i cs1 st' ho
      cases hl : len == 1 with
      | false => rw [hl] at hx; cases hx
      | true =>
        rw [hl] at hx; cases hx
        have e : len = 1 := by simpa using hl
        subst e
        exact mm_op_ok ho hc hd k
    · cases hx
theorem mm_xs_ok : ∀ {es : List mm_E} {s s' : mm_S} {cs : List Prop}, es.all (mm_k M) = true → mm_xs es s = some (cs, s') → mm_all cs → mm_W d M mc ms Q nc ns s' → mm_W d M mc ms Q nc ns s := by
  intro es
  induction es with
  | nil => intro s s' cs _ hx _ k; cases hx; exact k
  | cons e es ih =>
    intro s s' cs hok hx hc k
    rw [List.all_cons, Bool.and_eq_true] at hok
    obtain ⟨pc', lv', st', h'⟩ := s
    obtain ⟨hk1, hk2⟩ := hok
    unfold mm_k at hk1
    rw [Bool.and_eq_true, decide_eq_true_eq] at hk1
    simp only [mm_xs] at hx
    cases hp : pc' == e.1 with
    | false => rw [hp] at hx; cases hx
    | true =>
      rw [hp] at hx
      have ep : pc' = e.1 := by simpa using hp
      subst ep
      simp only [cond_true] at hx
      split at hx
      · rename_i cs1 s1 h1
        split at hx
        · rename_i cs2 s2 h2
          cases hx
          obtain ⟨c1, c2⟩ := mm_all_app hc
          exact mm_x1_ok hk1.1 hk1.2 h1 c1 (ih hk2 h2 c2 k)
        · cases hx
      · cases hx
theorem mm_all_slice {cd : List mm_E} (hok : cd.all (mm_k M) = true) (i n : Nat) : ((cd.drop i).take n).all (mm_k M) = true := by
  rw [List.all_eq_true] at hok ⊢
  exact fun e he => hok e (List.mem_of_mem_drop (List.mem_of_mem_take he))
/-- rows i .. i + n - 1 of the code -/
theorem mm_B {cd : List mm_E} (hok : cd.all (mm_k M) = true) (i n : Nat) {s : mm_S} (s' : mm_S) (cs : List Prop) (hx : mm_xs ((cd.drop i).take n) s = some (cs, s')) (hc : mm_all cs) (k : mm_W d M mc ms Q nc ns s') : mm_W d M mc ms Q nc ns s :=
  mm_xs_ok (mm_all_slice hok i n) hx hc k
theorem mm_at {cd : List mm_E} (hok : cd.all (mm_k M) = true) {i : Nat} {e : mm_E} (he : cd[i]? = some e) : decode M.2.1 e.1 = .ok (e.2.1, e.2.2.1) ∧ mm_k2 M e.1 e.2.1 e.2.2.1 e.2.2.2.1 e.2.2.2.2.1 e.2.2.2.2.2 = true := by
  have h1 := List.all_eq_true.mp hok e (List.mem_of_getElem? he)
  unfold mm_k at h1
  rw [Bool.and_eq_true, decide_eq_true_eq] at h1
  exact h1
theorem mm_k2_off {i : Instr} {len x y : Nat} {v : Value} {st : List Value} {R : Prop × Prop × List Value} (hk : mm_k2 M pc i len x y v = true) (hb : mm_br i st = some R) : len = 3 ∧ (pc : Int) + mm_off i = (y : Int) := by
  unfold mm_br at hb
  split at hb <;> first | (cases hb; done) | (simp only [mm_k2, Bool.and_eq_true, beq_iff_eq, decide_eq_true_eq] at hk; exact hk)
/-- rows i .. i + n - 1, then a branch -/
theorem mm_I {cd : List mm_E} (hok : cd.all (mm_k M) = true) (i n : Nat) {s : mm_S} (pc' : Nat) (lv' : mm_L) (st' : List Value) (h' : mm_Hp) (cs : List Prop) {P P' : Prop} {r : List Value} {ins : Instr} {len x tgt : Nat} {v : Value} (hx : mm_xs ((cd.drop i).take n) s = some (cs, (pc', lv', st', h'))) (hc : mm_all cs) (he : cd[i + n]? = some (pc', ins, len, x, tgt, v)) (hb : mm_br ins st' = some (P, P', r)) (kt : P → mm_W d M mc ms Q nc ns (tgt, lv', r, h')) (kf : P' → mm_W d M mc ms Q nc ns (pc' + 3, lv', r, h')) : mm_W d M mc ms Q nc ns s := by
  refine mm_xs_ok (mm_all_slice hok i n) hx hc ?_
  obtain ⟨h1, h2⟩ := mm_at hok he
  obtain ⟨e3, e4⟩ := mm_k2_off h2 hb
  have e3 : len = 3 := e3
  subst e3
  exact mm_br_ok hb h1 e4 kt kf
end
end
section
/-! ===== new int[N][K] over the picture ===== -/
def mm_mg (g : Nat → Nat → Int32) (n N : Nat) : Nat → Nat → Int32 := fun a b => if a < n then g a b else if a = n then (if b < N then nI (n + b + 2) else 0) else 0
def mm_ml (g : Nat → Nat → Int64) (n : Nat) : Nat → Nat → Int64 := fun a b => if a < n then g a b else 0
def mm_mn (h : mm_Hp) (N K : Nat) : mm_Hp := ((h.1 ++ [.inl (4, N)]) ++ List.replicate N (.inl (0, K)), mm_mg h.2.1 h.1.length N, mm_ml h.2.2.1 h.1.length, h.2.2.2)
def mm_mx (ad : Nat → Nat) (n q : Nat) (r : Nat → Nat) : Nat → Nat := fun k => if k < n then ad k else if k = n then q else r (k - n - 1)
theorem mm_mx_lt {ad : Nat → Nat} {n q : Nat} {r : Nat → Nat} {k : Nat} (h : k < n) : mm_mx ad n q r k = ad k := if_pos h
theorem mm_mg_lt {g : Nat → Nat → Int32} {n N k : Nat} (h : k < n) : mm_mg g n N k = g k := by
  funext i
  simp [mm_mg, h]
theorem mm_ml_lt {g : Nat → Nat → Int64} {n k : Nat} (h : k < n) : mm_ml g n k = g k := by
  funext i
  simp [mm_ml, h]
theorem mm_cv_mn {X : mm_X} {ad : Nat → Nat} {h : mm_Hp} {c : mm_Sh} {q k N K : Nat} {r : Nat → Nat} (hw : mm_wf h) (hk : h.1[k]? = some c) : mm_cv X (mm_mx ad h.1.length q r) (mm_mn h N K) k c = mm_cv X ad h k c := by
  have hlt : k < h.1.length := (List.getElem?_eq_some_iff.mp hk).1
  obtain ⟨w1, w2⟩ := hw k c hk
  cases c with
  | inl a =>
    have e0 : (mm_mn h N K).2.1 k = h.2.1 k := mm_mg_lt hlt
    simp only [mm_cv, e0]
    by_cases ht : a.1 < 2
    · simp only [if_pos ht]
    · simp only [if_neg ht]
      congr 7
      funext i
      have h1 := (w1 a rfl).resolve_left ht i
      unfold mm_rd
      split
      · rfl
      · rename_i hx
        rw [mm_mx_lt]
        have : 0 < (h.2.1 k i).toNatClampNeg := by
          have h0 : (0 : Int32) < h.2.1 k i := by rw [← Int32.not_le]; exact hx
          have h2 : (0 : Int) < (h.2.1 k i).toInt := by simpa using Int32.lt_iff_toInt_lt.mp h0
          show 0 < (h.2.1 k i).toInt.toNat
          omega
        omega
  | inr o =>
    simp only [mm_cv]
    congr 2
    apply List.ext_getElem?
    intro j
    rw [List.getElem?_mapIdx, List.getElem?_mapIdx]
    have h1 := fun f hf => w2 o rfl f (List.mem_of_getElem? (i := j) hf)
    generalize o.2[j]? = z at h1
    cases z with
    | none => rw [Option.map_none, Option.map_none]
    | some f =>
      rw [Option.map_some, Option.map_some]
      have hf := h1 f rfl
      match f, hf with
      | 0, _ => exact congrArg (fun x => some (Value.int x)) (congrFun (mm_mg_lt hlt) j)
      | 1, _ => exact congrArg (fun x => some (Value.long x)) (congrFun (mm_ml_lt hlt) j)
      | 2, _ => rfl
      | f + 3, hf => exact congrArg (fun x => some (Value.ref x)) (mm_mx_lt (by omega))
theorem mm_lay_mn {X : mm_X} {ad : Nat → Nat} {h : mm_Hp} {q N K : Nat} {r : Nat → Nat} (f : Nat → va_E) (hw : mm_wf h) (hN : h.1.length + N + 2 < 2 ^ 31) : mm_lay X (mm_mx ad h.1.length q r) (mm_mn h N K) = (mm_lay X ad h ++ [(q, .inl (X.2.1 4, N, .inr (.inr (.inr (.inr (fun i => if i < N then some (r i) else none))))))]) ++ va_pl ([] ++ (List.range N).map r) (vr_up f ((List.range N).map r) (.inl (X.2.1 0, K, .inl (fun _ => 0)))) := by
  refine List.ext_getElem? (fun j => ?_)
  rw [mm_lay_get]
  have e1 : (mm_mn h N K).1 = (h.1 ++ [.inl (4, N)]) ++ List.replicate N (.inl (0, K)) := rfl
  rw [e1]
  have hlA : (mm_lay X ad h ++ [((q, .inl (X.2.1 4, N, .inr (.inr (.inr (.inr (fun i => if i < N then some (r i) else none)))))) : Nat × va_E)]).length = h.1.length + 1 := by rw [List.length_append, mm_lay_len]; rfl
  have hlB : (h.1 ++ [(.inl (4, N) : mm_Sh)]).length = h.1.length + 1 := by rw [List.length_append]; rfl
  by_cases hj : j < h.1.length
  · rw [List.getElem?_append_left (by omega), List.getElem?_append_left hj, List.getElem?_append_left (by omega), List.getElem?_append_left (by rw [mm_lay_len]; exact hj), mm_lay_get]
    have h2 := fun c hc => mm_cv_mn (X := X) (ad := ad) (q := q) (k := j) (c := c) (N := N) (K := K) (r := r) hw hc
    generalize h.1[j]? = z at h2
    cases z with
    | none => rw [Option.map_none, Option.map_none]
    | some c => rw [Option.map_some, Option.map_some, h2 c rfl, mm_mx_lt hj]
  · by_cases e : j = h.1.length
    · subst e
      rw [List.getElem?_append_left (by omega), List.getElem?_append_right (by omega), List.getElem?_append_left (by omega), List.getElem?_append_right (by rw [mm_lay_len]; omega), mm_lay_len, Nat.sub_self]
      show some (mm_mx ad h.1.length q r h.1.length, mm_cv X (mm_mx ad h.1.length q r) (mm_mn h N K) h.1.length (.inl (4, N))) = some (q, _)
      have e5 : mm_mx ad h.1.length q r h.1.length = q := by simp [mm_mx]
      rw [e5]
      congr 2
      simp only [mm_cv, if_neg (show ¬ (4 : Nat) < 2 by decide)]
      congr 7
      funext i
      show mm_rd _ (mm_mg h.2.1 h.1.length N h.1.length i) = _
      have e6 : mm_mg h.2.1 h.1.length N h.1.length i = if i < N then nI (h.1.length + i + 2) else 0 := by simp [mm_mg]
      rw [e6]
      by_cases hi : i < N
      · rw [if_pos hi, if_pos hi, show h.1.length + i + 2 = (h.1.length + i + 1) + 1 by omega, mm_rd_ref (by omega)]
        congr 1
        unfold mm_mx
        rw [if_neg (by omega), if_neg (by omega)]
        congr 1
        omega
      · rw [if_neg hi, if_neg hi]
        rfl
    · rw [List.getElem?_append_right (by omega), List.getElem?_append_right (by omega), hlA, hlB]
      unfold va_pl
      rw [List.nil_append, List.getElem?_map, List.getElem?_map]
      by_cases hN' : j - (h.1.length + 1) < N
      · rw [List.getElem?_replicate, if_pos hN', List.getElem?_range hN', Option.map_some, Option.map_some, Option.map_some]
        have e7 : mm_mx ad h.1.length q r j = r (j - (h.1.length + 1)) := by
          unfold mm_mx
          rw [if_neg hj, if_neg e]
          congr 1
        rw [e7, vr_up_in (List.mem_map.mpr ⟨_, List.mem_range.mpr hN', rfl⟩)]
        congr 2
        simp only [mm_cv, if_pos (show (0 : Nat) < 2 by decide)]
        congr 4
        funext i
        show mm_mg h.2.1 h.1.length N j i = 0
        simp [mm_mg, hj, e]
      · rw [List.getElem?_replicate, if_neg hN', List.getElem?_eq_none (by rw [List.length_range]; omega)]
        rfl
section
variable {d : Nat} {M : mm_M} {mc ms : Nat} {Q : Option Value → mm_Hp → Prop} {nc ns pc : Nat} {lv : mm_L} {st : List Value} {h : mm_Hp}
theorem mm_mna {n k : Int32} {N K idx : Nat} (hcl : Cond.classLink M.1.cls idx "[[I" ∈ mm_G) (harr : Cond.arrayClass .int ∈ mm_G) (hn0 : ¬ n < 0) (hk0 : ¬ k < 0) (hN : n.toNatClampNeg = N) (hK : k.toNatClampNeg = K) (hN1 : N ≤ 100000) (hK1 : K ≤ 100000) (hL : h.1.length ≤ 1000000) (hd : decode M.2.1 pc = .ok (.multianewarray idx 2, 4)) (hm : nc + 1 + N ≤ mc ∧ ns + N + N * K ≤ ms) (hw : mm_wf h) (hvs : mm_vs h.1.length lv st)
    (kk : mm_W d M mc ms Q (nc + 1 + N) (ns + N + N * K) (pc + 4, lv, .ref h.1.length :: st, mm_mn h N K)) : mm_W d M mc ms Q nc ns (pc, lv, .int k :: .int n :: st, h) := by
  intro p l e s m args below meth c X ad0 n0 ad H locs ls C ha hn hR hS hl
  have C' := C
  obtain ⟨hx, hb, hml, hr, hlo, hown, hts, hnm, hT, hO⟩ := C'
  have hA : ∀ q : Nat, s.heap.size ≤ q → mm_A X q := fun q hq => Nat.le_trans hO.2.2.2.2.1 hq
  have hcy : s.vm.findClass (FieldType.array .int).toString = some (X.2.1 0) := (hT.1.2 0 _ rfl).2
  have hl0 : mm_lay X ad h = mm_lay X ad h ++ va_pl [] (fun _ => .inr (0, [])) := (List.append_nil _).symm
  refine va_mna (D := X.1) (cl := vwCl) (X := mm_lay X ad h) (L := []) (f := fun _ => .inr (0, [])) (ty := .int) (cy := X.2.1 0) (z := (K, .inl (fun _ => 0))) hx hb hown (hts _ hcl) hT.2.2.2.2.1 (hts _ harr) hcy hT.1 (by rw [← hl0]; exact hR.1) (by rw [← hl0]; exact hR.2.1) hS hA hn0 hk0 hN hK (by omega) (by show K * 4 ≤ _; omega) (by omega) (by decide +kernel) (by decide +kernel) (by show nc + (1 + N) ≤ mc; omega) (by show ns + (N + N * K) ≤ ms; omega) ?_ hd (fun q rr cA H1 hinj hnot hK1 hP1 hD1 hS1 => ?_)
  · intro c
    show ({ cls := c, slots := Array.replicate K (.int 0), vm := .none } : Cell) = _
    rw [arrV_new]
    rfl
  · have ec := mm_uniq (t := 4) hT.1 rfl hK1
    subst ec
    have hag : ∀ k, k < h.1.length → mm_mx ad h.1.length q rr k = ad k := fun k hk => mm_mx_lt hk
    have e3 := mm_lay_mn (X := X) (ad := ad) (q := q) (N := N) (K := K) (r := rr) (fun _ => .inr (0, [])) hw (by omega)
    have k' := kk p l e s m args below meth c X ad0 n0 (mm_mx ad h.1.length q rr) H1 locs ls C (fun k hk => (hag k (Nat.lt_of_lt_of_le hk hn)).trans (ha k hk)) (by show n0 ≤ ((h.1 ++ [_]) ++ _).length; rw [List.length_append, List.length_append]; have : n0 ≤ h.1.length := hn; omega) ⟨by rw [e3]; exact hP1, by rw [e3]; exact hD1, hR.2.2⟩ hS1 (hl.ext hag hvs.1)
    simp only [List.map_cons, mm_st_ext hag hvs.2] at k'
    rw [show mm_rv X (mm_mx ad h.1.length q rr) (.ref h.1.length) = .ref q from congrArg Value.ref (by simp [mm_mx])] at k'
    exact k'
end
end
section
/-! ===== String constants over the picture: .retAddr i the text i, .retAddr (100 + i) its bytes, .retAddr 200 a formatter that is never used ===== -/
theorem mm_rv_k {X : mm_X} {ad : Nat → Nat} {i : Nat} (hi : i < 12) : mm_rv X ad (.retAddr i) = .ref (X.2.2.2.1.1 i) := by
  have : Nat.ble 100 i = false := by
    cases h9 : Nat.ble 100 i with
    | false => rfl
    | true => have := Nat.le_of_ble_eq_true h9; omega
  simp [mm_rv, this]
theorem mm_rv_b {X : mm_X} {ad : Nat → Nat} {i : Nat} (hi : i < 12) : mm_rv X ad (.retAddr (100 + i)) = .ref (X.2.2.2.1.2 i) := by
  have h1 : Nat.ble 100 (100 + i) = true := Nat.ble_eq_true_of_le (by omega)
  have h2 : Nat.blt (100 + i) 200 = true := Nat.blt_eq.mpr (by omega)
  simp [mm_rv, h1, h2]
section
variable {d : Nat} {M : mm_M} {mc ms : Nat} {Q : Option Value → mm_Hp → Prop} {nc ns pc : Nat} {lv : mm_L} {st : List Value} {h : mm_Hp}
theorem mm_gsC {idx : Nat} (hlk : Cond.fieldLink M.1.cls idx "java/lang/String" "COMPACT_STRINGS" "Z" ∈ mm_G) (hd : decode M.2.1 pc = .ok (.getstatic idx, 3)) (k : mm_W d M mc ms Q nc ns (pc + 3, lv, .int 1 :: st, h)) : mm_W d M mc ms Q nc ns (pc, lv, st, h) := by
  intro p l e s m args below meth c X ad0 n0 ad H locs ls C ha hn hR hS hl
  have k' := k p l e s m args below meth c X ad0 n0 ad H locs ls C ha hn hR hS hl
  obtain ⟨hx, hb, hml, hr, hlo, hown, hts, hnm, hT, hO⟩ := C
  exact va_gets hx hb hO.2.1 hS hown (hts _ hlk) (fun x hx => hx) hd k'
theorem mm_gsF {idx : Nat} (hlk : Cond.fieldLink M.1.cls idx "jdk/internal/util/Preconditions" "SIOOBE_FORMATTER" "Ljava/util/function/BiFunction;" ∈ mm_G) (hd : decode M.2.1 pc = .ok (.getstatic idx, 3)) (k0 : mm_W d M mc ms Q nc ns (pc + 3, lv, .null :: st, h)) (k1 : mm_W d M mc ms Q nc ns (pc + 3, lv, .retAddr 200 :: st, h)) : mm_W d M mc ms Q nc ns (pc, lv, st, h) := by
  intro p l e s m args below meth c X ad0 n0 ad H locs ls C ha hn hR hS hl
  have k0' := k0 p l e s m args below meth c X ad0 n0 ad H locs ls C ha hn hR hS hl
  have k1' := k1 p l e s m args below meth c X ad0 n0 ad H locs ls C ha hn hR hS hl
  obtain ⟨hx, hb, hml, hr, hlo, hown, hts, hnm, hT, hO⟩ := C
  rcases hO.2.2.2.2.2 with hz | hz
  · exact va_gets hx hb hz hS hown (hts _ hlk) (fun x hx => hx) hd k0'
  · exact va_gets hx hb hz hS hown (hts _ hlk) (fun x hx => hx) hd k1'
theorem mm_gfV {idx i : Nat} (hi : i < 12) (hlk : Cond.fieldLink M.1.cls idx "java/lang/String" "value" "[B" ∈ mm_G) (hd : decode M.2.1 pc = .ok (.getfield idx, 3)) (k : mm_W d M mc ms Q nc ns (pc + 3, lv, .retAddr (100 + i) :: st, h)) : mm_W d M mc ms Q nc ns (pc, lv, .retAddr i :: st, h) := by
  intro p l e s m args below meth c X ad0 n0 ad H locs ls C ha hn hR hS hl
  have k' := k p l e s m args below meth c X ad0 n0 ad H locs ls C ha hn hR hS hl
  obtain ⟨hx, hb, hml, hr, hlo, hown, hts, hnm, hT, hO⟩ := C
  simp only [List.map_cons, mm_rv_b hi] at k'
  simp only [List.map_cons, mm_rv_k hi]
  exact vk_getf hx hb (hO.1.1 i hi).2.2.1 hS hown (hts _ hlk) (fun x hx => hx) hd k'
theorem mm_gfC {idx i : Nat} (hi : i < 12) (hlk : Cond.fieldLink M.1.cls idx "java/lang/String" "coder" "B" ∈ mm_G) (hd : decode M.2.1 pc = .ok (.getfield idx, 3)) (k : mm_W d M mc ms Q nc ns (pc + 3, lv, .int 0 :: st, h)) : mm_W d M mc ms Q nc ns (pc, lv, .retAddr i :: st, h) := by
  intro p l e s m args below meth c X ad0 n0 ad H locs ls C ha hn hR hS hl
  have k' := k p l e s m args below meth c X ad0 n0 ad H locs ls C ha hn hR hS hl
  obtain ⟨hx, hb, hml, hr, hlo, hown, hts, hnm, hT, hO⟩ := C
  simp only [List.map_cons, mm_rv_k hi]
  exact vk_getf hx hb (hO.1.1 i hi).2.1 hS hown (hts _ hlk) (fun x hx => hx) hd k'
theorem mm_stl' {i : Nat} (hi : i < 12) (hd : decode M.2.1 pc = .ok (.arraylength, 1)) (k : mm_W d M mc ms Q nc ns (pc + 1, lv, .int (nI (mm_sl.getD i 0)) :: st, h)) : mm_W d M mc ms Q nc ns (pc, lv, .retAddr (100 + i) :: st, h) := by
  intro p l e s m args below meth c X ad0 n0 ad H locs ls C ha hn hR hS hl
  have k' := k p l e s m args below meth c X ad0 n0 ad H locs ls C ha hn hR hS hl
  obtain ⟨hx, hb, hml, hr, hlo, hown, hts, hnm, hT, hO⟩ := C
  simp only [List.map_cons, mm_rv_b hi]
  exact va_tlen hx hb (hO.1.1 i hi).2.2.2 hS rfl hd k'
theorem mm_stb {i : Nat} {a : Int32} (hi : i < 12) (ha0 : vp_in a (mm_sl.getD i 0)) (hd : decode M.2.1 pc = .ok (.baload, 1)) (k : mm_W d M mc ms Q nc ns (pc + 1, lv, .int ((mm_sb.getD i []).getD a.toNatClampNeg 0) :: st, h)) : mm_W d M mc ms Q nc ns (pc, lv, .int a :: .retAddr (100 + i) :: st, h) := by
  intro p l e s m args below meth c X ad0 n0 ad H locs ls C ha hn hR hS hl
  have k' := k p l e s m args below meth c X ad0 n0 ad H locs ls C ha hn hR hS hl
  obtain ⟨hx, hb, hml, hr, hlo, hown, hts, hnm, hT, hO⟩ := C
  simp only [List.map_cons, mm_rv_b hi]
  exact va_tb hx hb (hO.1.1 i hi).2.2.2 hS ha0 rfl hd k'
/-- a String's own method, of a constant -/
theorem mm_cT {N : mm_M} {as : List Value} {i idx d' mc' ms' : Nat} {Q' : Option Value → mm_Hp → Prop} (hi : i < 12) (hN : mm_cw N as.length) (hlk : Cond.methodLink M.1.cls idx N.1 ∈ mm_G) (hin : Cond.instanceMethod N.1 ∈ mm_G) (hsl : Cond.selects "java/lang/String" N.1 N.1 ∈ mm_G) (hd : decode M.2.1 pc = .ok (.invokevirtual idx, 3)) (hct : mm_Ct d' N (.retAddr i :: as) h mc' ms' Q') (hdd : d' + 1 ≤ d) (hm : nc + mc' ≤ mc ∧ ns + ms' ≤ ms) (hcat : (st.map Value.category).sum ≤ 8) (hvs : mm_vs h.1.length lv st)
    (kk : ∀ v h', Q' v h' → mm_W d M mc ms Q (nc + mc') (ns + ms') (pc + 3, lv, v.toList ++ st, h')) : mm_W d M mc ms Q nc ns (pc, lv, as.reverse ++ .retAddr i :: st, h) := by
  intro p l e s m args below meth c X ad0 n0 ad H locs ls C ha hn hR hS hl
  have C' := C
  obtain ⟨hx, hb, hml, hr, hlo, hown, hts, hnm, hT, hO⟩ := C'
  refine mm_after hvs kk C ha hn hS hl (a := ((.retAddr i :: as).map (mm_rv X ad)).toArray) ?_
  have e0 := mm_rv_k (X := X) (ad := ad) hi
  have hpre := mm_pre (as := .retAddr i :: as) hT hO hR hS
  simp only [List.map_cons, e0] at hpre ⊢
  refine va_runV (As := as.map (mm_rv X ad)) (C := "java/lang/String") (n := as.length) (b := X.2.2.2.1.1 i) ⟨hx, hb, hml, hown, hts⟩ (hct l X ad) ⟨mm_CB hN hlk hdd hts, hts _ hin, hts _ hsl⟩ ⟨mm_P_blind, vk_recv hO.1 hi hS, hpre⟩ rfl (by rw [List.length_map]) hl.2.1 ?_ (lv_room (m := m) (pc := pc) (ls := ls) (rest := []) (mm_cats hcat)) hd hm
  show ((as.reverse ++ .retAddr i :: st).map (mm_rv X ad)) = _
  rw [List.map_append, List.map_reverse, List.map_cons, e0]
end
end
section
/-! ===== code, written by program out of the listing ===== -/
abbrev M_Ar_fill : mm_M := (⟨"java/util/Arrays", "fill", "([II)V"⟩, prog_22_method_103_code, 4, none)
def cd_Ar_fill : List mm_E := [(0, .iconst 0, 1, 0, 0, .int 0), (1, .istore_n 2, 1, 2, 0, .null), (2, .aload_n 0, 1, 0, 0, .null), (3, .arraylength, 1, 0, 0, .null), (4, .istore_n 3, 1, 3, 0, .null), (5, .iload_n 2, 1, 2, 0, .null), (6, .iload_n 3, 1, 3, 0, .null), (7, .if_icmp .ge 13, 3, 0, 20, .null), (10, .aload_n 0, 1, 0, 0, .null), (11, .iload_n 2, 1, 2, 0, .null), (12, .iload_n 1, 1, 1, 0, .null), (13, .iastore, 1, 0, 0, .null), (14, .iinc 2 1, 3, 2, 0, .int 1), (17, .goto (-12), 3, 0, 5, .null), (20, .return_, 1, 0, 0, .null)]
theorem ok_Ar_fill : cd_Ar_fill.all (mm_k M_Ar_fill) = true := by decide +kernel
abbrev M_St_length : mm_M := (⟨"java/lang/String", "length", "()I"⟩, prog_18_method_54_code, 1, (some .int))
def cd_St_length : List mm_E := [(0, .aload_n 0, 1, 0, 0, .null), (1, .getfield 9, 3, 99, 0, .null), (4, .arraylength, 1, 0, 0, .null), (5, .aload_n 0, 1, 0, 0, .null), (6, .invokevirtual 335, 3, 0, 0, .null), (9, .ishr, 1, 0, 0, .null), (10, .ireturn, 1, 0, 0, .null)]
theorem ok_St_length : cd_St_length.all (mm_k M_St_length) = true := by decide +kernel
abbrev M_St_coder : mm_M := (⟨"java/lang/String", "coder", "()B"⟩, prog_18_method_152_code, 1, (some .byte))
def cd_St_coder : List mm_E := [(0, .getstatic 38, 3, 0, 0, .null), (3, .ifCond .eq 10, 3, 0, 13, .null), (6, .aload_n 0, 1, 0, 0, .null), (7, .getfield 15, 3, 99, 0, .null), (10, .goto 4, 3, 0, 14, .null), (13, .iconst 1, 1, 0, 0, .int 1), (14, .ireturn, 1, 0, 0, .null)]
theorem ok_St_coder : cd_St_coder.all (mm_k M_St_coder) = true := by decide +kernel
abbrev M_St_charAt : mm_M := (⟨"java/lang/String", "charAt", "(I)C"⟩, prog_18_method_56_code, 2, (some .char))
def cd_St_charAt : List mm_E := [(0, .aload_n 0, 1, 0, 0, .null), (1, .invokevirtual 492, 3, 0, 0, .null), (4, .ifCond .eq 12, 3, 0, 16, .null), (7, .aload_n 0, 1, 0, 0, .null), (8, .getfield 9, 3, 99, 0, .null), (11, .iload_n 1, 1, 1, 0, .null), (12, .invokestatic 495, 3, 0, 0, .null), (15, .ireturn, 1, 0, 0, .null), (16, .aload_n 0, 1, 0, 0, .null), (17, .getfield 9, 3, 99, 0, .null), (20, .iload_n 1, 1, 1, 0, .null), (21, .invokestatic 498, 3, 0, 0, .null), (24, .ireturn, 1, 0, 0, .null)]
theorem ok_St_charAt : cd_St_charAt.all (mm_k M_St_charAt) = true := by decide +kernel
abbrev M_St_isLatin1 : mm_M := (⟨"java/lang/String", "isLatin1", "()Z"⟩, prog_18_method_154_code, 1, (some .boolean))
def cd_St_isLatin1 : List mm_E := [(0, .getstatic 38, 3, 0, 0, .null), (3, .ifCond .eq 14, 3, 0, 17, .null), (6, .aload_n 0, 1, 0, 0, .null), (7, .getfield 15, 3, 99, 0, .null), (10, .ifCond .ne 7, 3, 0, 17, .null), (13, .iconst 1, 1, 0, 0, .int 1), (14, .goto 4, 3, 0, 18, .null), (17, .iconst 0, 1, 0, 0, .int 0), (18, .ireturn, 1, 0, 0, .null)]
theorem ok_St_isLatin1 : cd_St_isLatin1.all (mm_k M_St_isLatin1) = true := by decide +kernel
abbrev M_Sl_charAt : mm_M := (⟨"java/lang/StringLatin1", "charAt", "([BI)C"⟩, prog_19_method_2_code, 2, (some .char))
def cd_Sl_charAt : List mm_E := [(0, .iload_n 1, 1, 1, 0, .null), (1, .aload_n 0, 1, 0, 0, .null), (2, .arraylength, 1, 0, 0, .null), (3, .invokestatic 9, 3, 0, 0, .null), (6, .aload_n 0, 1, 0, 0, .null), (7, .iload_n 1, 1, 1, 0, .null), (8, .baload, 1, 0, 0, .null), (9, .sipush 255, 3, 0, 0, .int 255), (12, .iand, 1, 0, 0, .null), (13, .i2c, 1, 0, 0, .null), (14, .ireturn, 1, 0, 0, .null)]
theorem ok_Sl_charAt : cd_Sl_charAt.all (mm_k M_Sl_charAt) = true := by decide +kernel
abbrev M_St_checkIndex : mm_M := (⟨"java/lang/String", "checkIndex", "(II)V"⟩, prog_18_method_155_code, 2, none)
def cd_St_checkIndex : List mm_E := [(0, .iload_n 0, 1, 0, 0, .null), (1, .iload_n 1, 1, 1, 0, .null), (2, .getstatic 1053, 3, 0, 0, .null), (5, .invokestatic 1059, 3, 0, 0, .null), (8, .pop, 1, 0, 0, .null), (9, .return_, 1, 0, 0, .null)]
theorem ok_St_checkIndex : cd_St_checkIndex.all (mm_k M_St_checkIndex) = true := by decide +kernel
abbrev M_Pr_checkIndex : mm_M := (⟨"jdk/internal/util/Preconditions", "checkIndex", "(IILjava/util/function/BiFunction;)I"⟩, prog_23_method_11_code, 3, (some .int))
def cd_Pr_checkIndex : List mm_E := [(0, .iload_n 0, 1, 0, 0, .null), (1, .ifCond .lt 8, 3, 0, 9, .null), (4, .iload_n 0, 1, 0, 0, .null), (5, .iload_n 1, 1, 1, 0, .null), (6, .if_icmp .lt 10, 3, 0, 16, .null), (9, .aload_n 2, 1, 2, 0, .null), (10, .iload_n 0, 1, 0, 0, .null), (11, .iload_n 1, 1, 1, 0, .null), (12, .invokestatic 95, 3, 0, 0, .null), (15, .athrow, 1, 0, 0, .null), (16, .iload_n 0, 1, 0, 0, .null), (17, .ireturn, 1, 0, 0, .null)]
theorem ok_Pr_checkIndex : cd_Pr_checkIndex.all (mm_k M_Pr_checkIndex) = true := by decide +kernel
abbrev M_Ar_copyOf : mm_M := (⟨"java/util/Arrays", "copyOf", "([II)[I"⟩, prog_22_method_123_code, 3, (some (.array .int)))
def cd_Ar_copyOf : List mm_E := [(0, .iload_n 1, 1, 1, 0, .null), (1, .aload_n 0, 1, 0, 0, .null), (2, .arraylength, 1, 0, 0, .null), (3, .if_icmp .ne 11, 3, 0, 14, .null), (6, .aload_n 0, 1, 0, 0, .null), (7, .invokevirtual 316, 3, 0, 0, .null), (10, .checkcast 317, 3, 0, 0, .null), (13, .areturn, 1, 0, 0, .null), (14, .iload_n 1, 1, 1, 0, .null), (15, .newarray .int, 2, 0, 0, .null), (17, .astore_n 2, 1, 2, 0, .null), (18, .aload_n 0, 1, 0, 0, .null), (19, .iconst 0, 1, 0, 0, .int 0), (20, .aload_n 2, 1, 2, 0, .null), (21, .iconst 0, 1, 0, 0, .int 0), (22, .aload_n 0, 1, 0, 0, .null), (23, .arraylength, 1, 0, 0, .null), (24, .iload_n 1, 1, 1, 0, .null), (25, .invokestatic 304, 3, 0, 0, .null), (28, .invokestatic 150, 3, 0, 0, .null), (31, .aload_n 2, 1, 2, 0, .null), (32, .areturn, 1, 0, 0, .null)]
theorem ok_Ar_copyOf : cd_Ar_copyOf.all (mm_k M_Ar_copyOf) = true := by decide +kernel
abbrev M_Ma_min : mm_M := (⟨"java/lang/Math", "min", "(II)I"⟩, prog_17_method_69_code, 2, (some .int))
def cd_Ma_min : List mm_E := [(0, .iload_n 0, 1, 0, 0, .null), (1, .iload_n 1, 1, 1, 0, .null), (2, .if_icmp .gt 7, 3, 0, 9, .null), (5, .iload_n 0, 1, 0, 0, .null), (6, .goto 4, 3, 0, 10, .null), (9, .iload_n 1, 1, 1, 0, .null), (10, .ireturn, 1, 0, 0, .null)]
theorem ok_Ma_min : cd_Ma_min.all (mm_k M_Ma_min) = true := by decide +kernel
abbrev M_In_bitCount : mm_M := (⟨"java/lang/Integer", "bitCount", "(I)I"⟩, prog_16_method_49_code, 1, (some .int))
def cd_In_bitCount : List mm_E := [(0, .iload_n 0, 1, 0, 0, .null), (1, .iload_n 0, 1, 0, 0, .null), (2, .iconst 1, 1, 0, 0, .int 1), (3, .iushr, 1, 0, 0, .null), (4, .ldc_w 265, 3, 0, 0, .int 1431655765), (7, .iand, 1, 0, 0, .null), (8, .isub, 1, 0, 0, .null), (9, .istore_n 0, 1, 0, 0, .null), (10, .iload_n 0, 1, 0, 0, .null), (11, .ldc_w 266, 3, 0, 0, .int 858993459), (14, .iand, 1, 0, 0, .null), (15, .iload_n 0, 1, 0, 0, .null), (16, .iconst 2, 1, 0, 0, .int 2), (17, .iushr, 1, 0, 0, .null), (18, .ldc_w 266, 3, 0, 0, .int 858993459), (21, .iand, 1, 0, 0, .null), (22, .iadd, 1, 0, 0, .null), (23, .istore_n 0, 1, 0, 0, .null), (24, .iload_n 0, 1, 0, 0, .null), (25, .iload_n 0, 1, 0, 0, .null), (26, .iconst 4, 1, 0, 0, .int 4), (27, .iushr, 1, 0, 0, .null), (28, .iadd, 1, 0, 0, .null), (29, .ldc_w 267, 3, 0, 0, .int 252645135), (32, .iand, 1, 0, 0, .null), (33, .istore_n 0, 1, 0, 0, .null), (34, .iload_n 0, 1, 0, 0, .null), (35, .iload_n 0, 1, 0, 0, .null), (36, .bipush 8, 2, 0, 0, .int 8), (38, .iushr, 1, 0, 0, .null), (39, .iadd, 1, 0, 0, .null), (40, .istore_n 0, 1, 0, 0, .null), (41, .iload_n 0, 1, 0, 0, .null), (42, .iload_n 0, 1, 0, 0, .null), (43, .bipush 16, 2, 0, 0, .int 16), (45, .iushr, 1, 0, 0, .null), (46, .iadd, 1, 0, 0, .null), (47, .istore_n 0, 1, 0, 0, .null), (48, .iload_n 0, 1, 0, 0, .null), (49, .bipush 63, 2, 0, 0, .int 63), (51, .iand, 1, 0, 0, .null), (52, .ireturn, 1, 0, 0, .null)]
theorem ok_In_bitCount : cd_In_bitCount.all (mm_k M_In_bitCount) = true := by decide +kernel
abbrev M_Ma_max : mm_M := (⟨"java/lang/Math", "max", "(II)I"⟩, prog_17_method_65_code, 2, (some .int))
def cd_Ma_max : List mm_E := [(0, .iload_n 0, 1, 0, 0, .null), (1, .iload_n 1, 1, 1, 0, .null), (2, .if_icmp .lt 7, 3, 0, 9, .null), (5, .iload_n 0, 1, 0, 0, .null), (6, .goto 4, 3, 0, 10, .null), (9, .iload_n 1, 1, 1, 0, .null), (10, .ireturn, 1, 0, 0, .null)]
theorem ok_Ma_max : cd_Ma_max.all (mm_k M_Ma_max) = true := by decide +kernel
end
section
/-! ===== code, written by program out of the listing ===== -/
abbrev M_Bo_init : mm_M := (⟨"SchoolOnRaft$Board", "<init>", "()V"⟩, prog_2_method_1_code, 1, none)
def cd_Bo_init : List mm_E := [(0, .aload_n 0, 1, 0, 0, .null), (1, .invokespecial 3, 3, 0, 0, .null), (4, .aload_n 0, 1, 0, 0, .null), (5, .iconst 4, 1, 0, 0, .int 4), (6, .newarray .int, 2, 0, 0, .null), (8, .putfield 9, 3, 0, 3, .null), (11, .aload_n 0, 1, 0, 0, .null), (12, .iconst 4, 1, 0, 0, .int 4), (13, .newarray .int, 2, 0, 0, .null), (15, .putfield 15, 3, 0, 4, .null), (18, .aload_n 0, 1, 0, 0, .null), (19, .iconst 4, 1, 0, 0, .int 4), (20, .newarray .int, 2, 0, 0, .null), (22, .putfield 18, 3, 0, 5, .null), (25, .aload_n 0, 1, 0, 0, .null), (26, .bipush 6, 2, 0, 0, .int 6), (28, .newarray .int, 2, 0, 0, .null), (30, .putfield 21, 3, 0, 6, .null), (33, .aload_n 0, 1, 0, 0, .null), (34, .bipush 6, 2, 0, 0, .int 6), (36, .newarray .int, 2, 0, 0, .null), (38, .putfield 24, 3, 0, 7, .null), (41, .aload_n 0, 1, 0, 0, .null), (42, .bipush 6, 2, 0, 0, .int 6), (44, .newarray .int, 2, 0, 0, .null), (46, .putfield 27, 3, 0, 8, .null), (49, .aload_n 0, 1, 0, 0, .null), (50, .bipush 6, 2, 0, 0, .int 6), (52, .newarray .int, 2, 0, 0, .null), (54, .putfield 30, 3, 0, 9, .null), (57, .aload_n 0, 1, 0, 0, .null), (58, .bipush 6, 2, 0, 0, .int 6), (60, .newarray .int, 2, 0, 0, .null), (62, .putfield 33, 3, 0, 10, .null), (65, .aload_n 0, 1, 0, 0, .null), (66, .getfield 30, 3, 0, 9, .null), (69, .iconst (-1), 1, 0, 0, .int (-1)), (70, .invokestatic 36, 3, 0, 0, .null), (73, .aload_n 0, 1, 0, 0, .null), (74, .getfield 33, 3, 0, 10, .null), (77, .iconst (-1), 1, 0, 0, .int (-1)), (78, .invokestatic 36, 3, 0, 0, .null), (81, .return_, 1, 0, 0, .null)]
theorem ok_Bo_init : cd_Bo_init.all (mm_k M_Bo_init) = true := by decide +kernel
abbrev M_Bo_addLesson : mm_M := (⟨"SchoolOnRaft$Board", "addLesson", "(III)I"⟩, prog_2_method_2_code, 4, (some .int))
def cd_Bo_addLesson : List mm_E := [(0, .aload_n 0, 1, 0, 0, .null), (1, .getfield 9, 3, 0, 3, .null), (4, .aload_n 0, 1, 0, 0, .null), (5, .getfield 42, 3, 0, 0, .null), (8, .iload_n 1, 1, 1, 0, .null), (9, .iastore, 1, 0, 0, .null), (10, .aload_n 0, 1, 0, 0, .null), (11, .getfield 15, 3, 0, 4, .null), (14, .aload_n 0, 1, 0, 0, .null), (15, .getfield 42, 3, 0, 0, .null), (18, .iload_n 2, 1, 2, 0, .null), (19, .iastore, 1, 0, 0, .null), (20, .aload_n 0, 1, 0, 0, .null), (21, .getfield 18, 3, 0, 5, .null), (24, .aload_n 0, 1, 0, 0, .null), (25, .getfield 42, 3, 0, 0, .null), (28, .iload_n 3, 1, 3, 0, .null), (29, .iastore, 1, 0, 0, .null), (30, .aload_n 0, 1, 0, 0, .null), (31, .dup, 1, 0, 0, .null), (32, .getfield 42, 3, 0, 0, .null), (35, .iconst 1, 1, 0, 0, .int 1), (36, .iadd, 1, 0, 0, .null), (37, .putfield 42, 3, 0, 0, .null), (40, .aload_n 0, 1, 0, 0, .null), (41, .getfield 42, 3, 0, 0, .null), (44, .iconst 1, 1, 0, 0, .int 1), (45, .isub, 1, 0, 0, .null), (46, .ireturn, 1, 0, 0, .null)]
theorem ok_Bo_addLesson : cd_Bo_addLesson.all (mm_k M_Bo_addLesson) = true := by decide +kernel
abbrev M_Bo_addChild : mm_M := (⟨"SchoolOnRaft$Board", "addChild", "(III)I"⟩, prog_2_method_3_code, 4, (some .int))
def cd_Bo_addChild : List mm_E := [(0, .aload_n 0, 1, 0, 0, .null), (1, .getfield 21, 3, 0, 6, .null), (4, .aload_n 0, 1, 0, 0, .null), (5, .getfield 46, 3, 0, 1, .null), (8, .iload_n 1, 1, 1, 0, .null), (9, .iastore, 1, 0, 0, .null), (10, .aload_n 0, 1, 0, 0, .null), (11, .getfield 24, 3, 0, 7, .null), (14, .aload_n 0, 1, 0, 0, .null), (15, .getfield 46, 3, 0, 1, .null), (18, .iload_n 2, 1, 2, 0, .null), (19, .iastore, 1, 0, 0, .null), (20, .aload_n 0, 1, 0, 0, .null), (21, .getfield 27, 3, 0, 8, .null), (24, .aload_n 0, 1, 0, 0, .null), (25, .getfield 46, 3, 0, 1, .null), (28, .iload_n 3, 1, 3, 0, .null), (29, .iastore, 1, 0, 0, .null), (30, .aload_n 0, 1, 0, 0, .null), (31, .dup, 1, 0, 0, .null), (32, .getfield 46, 3, 0, 1, .null), (35, .iconst 1, 1, 0, 0, .int 1), (36, .iadd, 1, 0, 0, .null), (37, .putfield 46, 3, 0, 1, .null), (40, .aload_n 0, 1, 0, 0, .null), (41, .getfield 46, 3, 0, 1, .null), (44, .iconst 1, 1, 0, 0, .int 1), (45, .isub, 1, 0, 0, .null), (46, .ireturn, 1, 0, 0, .null)]
theorem ok_Bo_addChild : cd_Bo_addChild.all (mm_k M_Bo_addChild) = true := by decide +kernel
abbrev M_Bo_become : mm_M := (⟨"SchoolOnRaft$Board", "become", "(LSchoolOnRaft$Board;)V"⟩, prog_2_method_4_code, 2, none)
def cd_Bo_become : List mm_E := [(0, .aload_n 0, 1, 0, 0, .null), (1, .aload_n 1, 1, 1, 0, .null), (2, .getfield 42, 3, 0, 0, .null), (5, .putfield 42, 3, 0, 0, .null), (8, .aload_n 0, 1, 0, 0, .null), (9, .aload_n 1, 1, 1, 0, .null), (10, .getfield 46, 3, 0, 1, .null), (13, .putfield 46, 3, 0, 1, .null), (16, .aload_n 0, 1, 0, 0, .null), (17, .aload_n 1, 1, 1, 0, .null), (18, .getfield 49, 3, 0, 2, .null), (21, .putfield 49, 3, 0, 2, .null), (24, .aload_n 1, 1, 1, 0, .null), (25, .getfield 9, 3, 0, 3, .null), (28, .iconst 0, 1, 0, 0, .int 0), (29, .aload_n 0, 1, 0, 0, .null), (30, .getfield 9, 3, 0, 3, .null), (33, .iconst 0, 1, 0, 0, .int 0), (34, .iconst 4, 1, 0, 0, .int 4), (35, .invokestatic 52, 3, 0, 0, .null), (38, .aload_n 1, 1, 1, 0, .null), (39, .getfield 15, 3, 0, 4, .null), (42, .iconst 0, 1, 0, 0, .int 0), (43, .aload_n 0, 1, 0, 0, .null), (44, .getfield 15, 3, 0, 4, .null), (47, .iconst 0, 1, 0, 0, .int 0), (48, .iconst 4, 1, 0, 0, .int 4), (49, .invokestatic 52, 3, 0, 0, .null), (52, .aload_n 1, 1, 1, 0, .null), (53, .getfield 18, 3, 0, 5, .null), (56, .iconst 0, 1, 0, 0, .int 0), (57, .aload_n 0, 1, 0, 0, .null), (58, .getfield 18, 3, 0, 5, .null), (61, .iconst 0, 1, 0, 0, .int 0), (62, .iconst 4, 1, 0, 0, .int 4), (63, .invokestatic 52, 3, 0, 0, .null), (66, .aload_n 1, 1, 1, 0, .null), (67, .getfield 21, 3, 0, 6, .null), (70, .iconst 0, 1, 0, 0, .int 0), (71, .aload_n 0, 1, 0, 0, .null), (72, .getfield 21, 3, 0, 6, .null), (75, .iconst 0, 1, 0, 0, .int 0), (76, .bipush 6, 2, 0, 0, .int 6), (78, .invokestatic 52, 3, 0, 0, .null), (81, .aload_n 1, 1, 1, 0, .null), (82, .getfield 24, 3, 0, 7, .null), (85, .iconst 0, 1, 0, 0, .int 0), (86, .aload_n 0, 1, 0, 0, .null), (87, .getfield 24, 3, 0, 7, .null), (90, .iconst 0, 1, 0, 0, .int 0), (91, .bipush 6, 2, 0, 0, .int 6), (93, .invokestatic 52, 3, 0, 0, .null), (96, .aload_n 1, 1, 1, 0, .null), (97, .getfield 27, 3, 0, 8, .null), (100, .iconst 0, 1, 0, 0, .int 0), (101, .aload_n 0, 1, 0, 0, .null), (102, .getfield 27, 3, 0, 8, .null), (105, .iconst 0, 1, 0, 0, .int 0), (106, .bipush 6, 2, 0, 0, .int 6), (108, .invokestatic 52, 3, 0, 0, .null), (111, .aload_n 1, 1, 1, 0, .null), (112, .getfield 30, 3, 0, 9, .null), (115, .iconst 0, 1, 0, 0, .int 0), (116, .aload_n 0, 1, 0, 0, .null), (117, .getfield 30, 3, 0, 9, .null), (120, .iconst 0, 1, 0, 0, .int 0), (121, .bipush 6, 2, 0, 0, .int 6), (123, .invokestatic 52, 3, 0, 0, .null), (126, .aload_n 1, 1, 1, 0, .null), (127, .getfield 33, 3, 0, 10, .null), (130, .iconst 0, 1, 0, 0, .int 0), (131, .aload_n 0, 1, 0, 0, .null), (132, .getfield 33, 3, 0, 10, .null), (135, .iconst 0, 1, 0, 0, .int 0), (136, .bipush 6, 2, 0, 0, .int 6), (138, .invokestatic 52, 3, 0, 0, .null), (141, .return_, 1, 0, 0, .null)]
theorem ok_Bo_become : cd_Bo_become.all (mm_k M_Bo_become) = true := by decide +kernel
abbrev M_Hk_init : mm_M := (⟨"SchoolOnRaft$HardKind", "<init>", "()V"⟩, prog_3_method_1_code, 1, none)
def cd_Hk_init : List mm_E := [(0, .aload_n 0, 1, 0, 0, .null), (1, .invokespecial 1, 3, 0, 0, .null), (4, .return_, 1, 0, 0, .null)]
theorem ok_Hk_init : cd_Hk_init.all (mm_k M_Hk_init) = true := by decide +kernel
abbrev M_Hk_times : mm_M := (⟨"SchoolOnRaft$HardKind", "times", "(I)I"⟩, prog_3_method_2_code, 2, (some .int))
def cd_Hk_times : List mm_E := [(0, .aload_n 0, 1, 0, 0, .null), (1, .iload_n 1, 1, 1, 0, .null), (2, .invokespecial 7, 3, 0, 0, .null), (5, .iconst 1, 1, 0, 0, .int 1), (6, .iadd, 1, 0, 0, .null), (7, .ireturn, 1, 0, 0, .null)]
theorem ok_Hk_times : cd_Hk_times.all (mm_k M_Hk_times) = true := by decide +kernel
abbrev M_Hk_keeps : mm_M := (⟨"SchoolOnRaft$HardKind", "keeps", "(II)Z"⟩, prog_3_method_3_code, 3, (some .boolean))
def cd_Hk_keeps : List mm_E := [(0, .aload_n 0, 1, 0, 0, .null), (1, .iload_n 1, 1, 1, 0, .null), (2, .iload_n 2, 1, 2, 0, .null), (3, .invokespecial 11, 3, 0, 0, .null), (6, .ifCond .eq 12, 3, 0, 18, .null), (9, .iload_n 2, 1, 2, 0, .null), (10, .iconst 4, 1, 0, 0, .int 4), (11, .if_icmp .gt 7, 3, 0, 18, .null), (14, .iconst 1, 1, 0, 0, .int 1), (15, .goto 4, 3, 0, 19, .null), (18, .iconst 0, 1, 0, 0, .int 0), (19, .ireturn, 1, 0, 0, .null)]
theorem ok_Hk_keeps : cd_Hk_keeps.all (mm_k M_Hk_keeps) = true := by decide +kernel
abbrev M_Hk_value : mm_M := (⟨"SchoolOnRaft$HardKind", "value", "(I)I"⟩, prog_3_method_4_code, 2, (some .int))
def cd_Hk_value : List mm_E := [(0, .aload_n 0, 1, 0, 0, .null), (1, .iload_n 1, 1, 1, 0, .null), (2, .invokespecial 15, 3, 0, 0, .null), (5, .iload_n 1, 1, 1, 0, .null), (6, .iadd, 1, 0, 0, .null), (7, .ireturn, 1, 0, 0, .null)]
theorem ok_Hk_value : cd_Hk_value.all (mm_k M_Hk_value) = true := by decide +kernel
abbrev M_Kd_init : mm_M := (⟨"SchoolOnRaft$Kind", "<init>", "()V"⟩, prog_4_method_1_code, 1, none)
def cd_Kd_init : List mm_E := [(0, .aload_n 0, 1, 0, 0, .null), (1, .invokespecial 1, 3, 0, 0, .null), (4, .return_, 1, 0, 0, .null)]
theorem ok_Kd_init : cd_Kd_init.all (mm_k M_Kd_init) = true := by decide +kernel
abbrev M_Kd_times : mm_M := (⟨"SchoolOnRaft$Kind", "times", "(I)I"⟩, prog_4_method_2_code, 2, (some .int))
def cd_Kd_times : List mm_E := [(0, .iconst 1, 1, 0, 0, .int 1), (1, .ireturn, 1, 0, 0, .null)]
theorem ok_Kd_times : cd_Kd_times.all (mm_k M_Kd_times) = true := by decide +kernel
abbrev M_Kd_keeps : mm_M := (⟨"SchoolOnRaft$Kind", "keeps", "(II)Z"⟩, prog_4_method_3_code, 3, (some .boolean))
def cd_Kd_keeps : List mm_E := [(0, .iconst 1, 1, 0, 0, .int 1), (1, .ireturn, 1, 0, 0, .null)]
theorem ok_Kd_keeps : cd_Kd_keeps.all (mm_k M_Kd_keeps) = true := by decide +kernel
abbrev M_Kd_value : mm_M := (⟨"SchoolOnRaft$Kind", "value", "(I)I"⟩, prog_4_method_4_code, 2, (some .int))
def cd_Kd_value : List mm_E := [(0, .bipush 10, 2, 0, 0, .int 10), (2, .iload_n 1, 1, 1, 0, .null), (3, .iadd, 1, 0, 0, .null), (4, .ireturn, 1, 0, 0, .null)]
theorem ok_Kd_value : cd_Kd_value.all (mm_k M_Kd_value) = true := by decide +kernel
abbrev M_Li_init : mm_M := (⟨"SchoolOnRaft$LightKind", "<init>", "()V"⟩, prog_5_method_1_code, 1, none)
def cd_Li_init : List mm_E := [(0, .aload_n 0, 1, 0, 0, .null), (1, .invokespecial 1, 3, 0, 0, .null), (4, .return_, 1, 0, 0, .null)]
theorem ok_Li_init : cd_Li_init.all (mm_k M_Li_init) = true := by decide +kernel
abbrev M_Li_keeps : mm_M := (⟨"SchoolOnRaft$LightKind", "keeps", "(II)Z"⟩, prog_5_method_2_code, 3, (some .boolean))
def cd_Li_keeps : List mm_E := [(0, .iload_n 2, 1, 2, 0, .null), (1, .iload_n 1, 1, 1, 0, .null), (2, .if_icmp .gt 7, 3, 0, 9, .null), (5, .iconst 1, 1, 0, 0, .int 1), (6, .goto 4, 3, 0, 10, .null), (9, .iconst 0, 1, 0, 0, .int 0), (10, .ireturn, 1, 0, 0, .null)]
theorem ok_Li_keeps : cd_Li_keeps.all (mm_k M_Li_keeps) = true := by decide +kernel
abbrev M_Li_value : mm_M := (⟨"SchoolOnRaft$LightKind", "value", "(I)I"⟩, prog_5_method_3_code, 2, (some .int))
def cd_Li_value : List mm_E := [(0, .aload_n 0, 1, 0, 0, .null), (1, .iload_n 1, 1, 1, 0, .null), (2, .invokespecial 7, 3, 0, 0, .null), (5, .iconst 5, 1, 0, 0, .int 5), (6, .isub, 1, 0, 0, .null), (7, .ireturn, 1, 0, 0, .null)]
theorem ok_Li_value : cd_Li_value.all (mm_k M_Li_value) = true := by decide +kernel
abbrev M_Lo_init : mm_M := (⟨"SchoolOnRaft$LongKind", "<init>", "()V"⟩, prog_6_method_1_code, 1, none)
def cd_Lo_init : List mm_E := [(0, .aload_n 0, 1, 0, 0, .null), (1, .invokespecial 1, 3, 0, 0, .null), (4, .return_, 1, 0, 0, .null)]
theorem ok_Lo_init : cd_Lo_init.all (mm_k M_Lo_init) = true := by decide +kernel
abbrev M_Lo_times : mm_M := (⟨"SchoolOnRaft$LongKind", "times", "(I)I"⟩, prog_6_method_2_code, 2, (some .int))
def cd_Lo_times : List mm_E := [(0, .aload_n 0, 1, 0, 0, .null), (1, .iload_n 1, 1, 1, 0, .null), (2, .invokespecial 7, 3, 0, 0, .null), (5, .iload_n 1, 1, 1, 0, .null), (6, .iconst 3, 1, 0, 0, .int 3), (7, .irem, 1, 0, 0, .null), (8, .iadd, 1, 0, 0, .null), (9, .ireturn, 1, 0, 0, .null)]
theorem ok_Lo_times : cd_Lo_times.all (mm_k M_Lo_times) = true := by decide +kernel
abbrev M_Lo_value : mm_M := (⟨"SchoolOnRaft$LongKind", "value", "(I)I"⟩, prog_6_method_3_code, 2, (some .int))
def cd_Lo_value : List mm_E := [(0, .iconst 2, 1, 0, 0, .int 2), (1, .aload_n 0, 1, 0, 0, .null), (2, .iload_n 1, 1, 1, 0, .null), (3, .invokespecial 11, 3, 0, 0, .null), (6, .imul, 1, 0, 0, .null), (7, .ireturn, 1, 0, 0, .null)]
theorem ok_Lo_value : cd_Lo_value.all (mm_k M_Lo_value) = true := by decide +kernel
abbrev M_Pk_init : mm_M := (⟨"SchoolOnRaft$ProofKind", "<init>", "()V"⟩, prog_7_method_1_code, 1, none)
def cd_Pk_init : List mm_E := [(0, .aload_n 0, 1, 0, 0, .null), (1, .invokespecial 1, 3, 0, 0, .null), (4, .return_, 1, 0, 0, .null)]
theorem ok_Pk_init : cd_Pk_init.all (mm_k M_Pk_init) = true := by decide +kernel
abbrev M_Pk_value : mm_M := (⟨"SchoolOnRaft$ProofKind", "value", "(I)I"⟩, prog_7_method_2_code, 2, (some .int))
def cd_Pk_value : List mm_E := [(0, .aload_n 0, 1, 0, 0, .null), (1, .iload_n 1, 1, 1, 0, .null), (2, .invokespecial 7, 3, 0, 0, .null), (5, .bipush 7, 2, 0, 0, .int 7), (7, .iadd, 1, 0, 0, .null), (8, .ireturn, 1, 0, 0, .null)]
theorem ok_Pk_value : cd_Pk_value.all (mm_k M_Pk_value) = true := by decide +kernel
abbrev M_Re_init : mm_M := (⟨"SchoolOnRaft$Reader", "<init>", "()V"⟩, prog_8_method_1_code, 1, none)
def cd_Re_init : List mm_E := [(0, .aload_n 0, 1, 0, 0, .null), (1, .invokespecial 3, 3, 0, 0, .null), (4, .aload_n 0, 1, 0, 0, .null), (5, .sipush 160, 3, 0, 0, .int 160), (8, .newarray .int, 2, 0, 0, .null), (10, .putfield 9, 3, 6, 0, .null), (13, .aload_n 0, 1, 0, 0, .null), (14, .sipush 160, 3, 0, 0, .int 160), (17, .newarray .int, 2, 0, 0, .null), (19, .putfield 15, 3, 6, 5, .null), (22, .return_, 1, 0, 0, .null)]
theorem ok_Re_init : cd_Re_init.all (mm_k M_Re_init) = true := by decide +kernel
abbrev M_Re_read : mm_M := (⟨"SchoolOnRaft$Reader", "read", "()LSchoolOnRaft$Text;"⟩, prog_8_method_2_code, 4, (some (.object "SchoolOnRaft$Text")))
def cd_Re_read : List mm_E := [(0, .aload_n 0, 1, 0, 0, .null), (1, .iconst 0, 1, 0, 0, .int 0), (2, .putfield 18, 3, 6, 3, .null), (5, .aload_n 0, 1, 0, 0, .null), (6, .invokevirtual 22, 3, 0, 0, .null), (9, .aload_n 0, 1, 0, 0, .null), (10, .bipush (-19), 2, 0, 0, .int (-19)), (12, .invokevirtual 27, 3, 0, 0, .null), (15, .astore_n 1, 1, 1, 0, .null), (16, .aload_n 1, 1, 1, 0, .null), (17, .ifnonnull 7, 3, 0, 24, .null), (20, .aconst_null, 1, 0, 0, .null), (21, .goto 9, 3, 0, 30, .null), (24, .aload_n 0, 1, 0, 0, .null), (25, .bipush (-20), 2, 0, 0, .int (-20)), (27, .invokevirtual 27, 3, 0, 0, .null), (30, .astore_n 2, 1, 2, 0, .null), (31, .aload_n 2, 1, 2, 0, .null), (32, .ifnonnull 7, 3, 0, 39, .null), (35, .aconst_null, 1, 0, 0, .null), (36, .goto 9, 3, 0, 45, .null), (39, .aload_n 0, 1, 0, 0, .null), (40, .bipush (-21), 2, 0, 0, .int (-21)), (42, .invokevirtual 27, 3, 0, 0, .null), (45, .astore_n 3, 1, 3, 0, .null), (46, .aload_n 0, 1, 0, 0, .null), (47, .iconst 0, 1, 0, 0, .int 0), (48, .putfield 31, 3, 6, 1, .null), (51, .aload_n 3, 1, 3, 0, .null), (52, .ifnull 12, 3, 0, 64, .null), (55, .aload_n 0, 1, 0, 0, .null), (56, .getfield 34, 3, 6, 4, .null), (59, .bipush (-22), 2, 0, 0, .int (-22)), (61, .if_icmp .eq 7, 3, 0, 68, .null), (64, .aconst_null, 1, 0, 0, .null), (65, .goto 13, 3, 0, 78, .null), (68, .new 25, 3, 0, 0, .null), (71, .dup, 1, 0, 0, .null), (72, .aload_n 1, 1, 1, 0, .null), (73, .aload_n 2, 1, 2, 0, .null), (74, .aload_n 3, 1, 3, 0, .null), (75, .invokespecial 37, 3, 0, 0, .null), (78, .areturn, 1, 0, 0, .null)]
theorem ok_Re_read : cd_Re_read.all (mm_k M_Re_read) = true := by decide +kernel
abbrev M_Re_section : mm_M := (⟨"SchoolOnRaft$Reader", "section", "(I)[I"⟩, prog_8_method_3_code, 2, (some (.array .int)))
def cd_Re_section : List mm_E := [(0, .aload_n 0, 1, 0, 0, .null), (1, .iconst 0, 1, 0, 0, .int 0), (2, .putfield 40, 3, 6, 6, .null), (5, .aload_n 0, 1, 0, 0, .null), (6, .getfield 34, 3, 6, 4, .null), (9, .iload_n 1, 1, 1, 0, .null), (10, .if_icmp .eq 5, 3, 0, 15, .null), (13, .aconst_null, 1, 0, 0, .null), (14, .areturn, 1, 0, 0, .null), (15, .aload_n 0, 1, 0, 0, .null), (16, .invokevirtual 22, 3, 0, 0, .null), (19, .aload_n 0, 1, 0, 0, .null), (20, .iconst 0, 1, 0, 0, .int 0), (21, .invokevirtual 43, 3, 0, 0, .null), (24, .ifCond .eq 12, 3, 0, 36, .null), (27, .aload_n 0, 1, 0, 0, .null), (28, .getfield 34, 3, 6, 4, .null), (31, .bipush (-18), 2, 0, 0, .int (-18)), (33, .if_icmp .eq 5, 3, 0, 38, .null), (36, .aconst_null, 1, 0, 0, .null), (37, .areturn, 1, 0, 0, .null), (38, .aload_n 0, 1, 0, 0, .null), (39, .invokevirtual 22, 3, 0, 0, .null), (42, .aload_n 0, 1, 0, 0, .null), (43, .getfield 15, 3, 6, 5, .null), (46, .aload_n 0, 1, 0, 0, .null), (47, .getfield 40, 3, 6, 6, .null), (50, .invokestatic 47, 3, 0, 0, .null), (53, .areturn, 1, 0, 0, .null)]
theorem ok_Re_section : cd_Re_section.all (mm_k M_Re_section) = true := by decide +kernel
abbrev M_Re_either : mm_M := (⟨"SchoolOnRaft$Reader", "either", "(I)Z"⟩, prog_8_method_4_code, 3, (some .boolean))
def cd_Re_either : List mm_E := [(0, .aload_n 0, 1, 0, 0, .null), (1, .iload_n 1, 1, 1, 0, .null), (2, .invokevirtual 53, 3, 0, 0, .null), (5, .ifCond .ne 5, 3, 0, 10, .null), (8, .iconst 0, 1, 0, 0, .int 0), (9, .ireturn, 1, 0, 0, .null), (10, .iconst 0, 1, 0, 0, .int 0), (11, .istore_n 2, 1, 2, 0, .null), (12, .iload_n 2, 1, 2, 0, .null), (13, .sipush 160, 3, 0, 0, .int 160), (16, .if_icmp .ge 38, 3, 0, 54, .null), (19, .aload_n 0, 1, 0, 0, .null), (20, .getfield 34, 3, 6, 4, .null), (23, .bipush (-7), 2, 0, 0, .int (-7)), (25, .if_icmp .ne 29, 3, 0, 54, .null), (28, .aload_n 0, 1, 0, 0, .null), (29, .invokevirtual 22, 3, 0, 0, .null), (32, .aload_n 0, 1, 0, 0, .null), (33, .iload_n 1, 1, 1, 0, .null), (34, .invokevirtual 53, 3, 0, 0, .null), (37, .ifCond .ne 5, 3, 0, 42, .null), (40, .iconst 0, 1, 0, 0, .int 0), (41, .ireturn, 1, 0, 0, .null), (42, .aload_n 0, 1, 0, 0, .null), (43, .bipush (-7), 2, 0, 0, .int (-7)), (45, .invokevirtual 56, 3, 0, 0, .null), (48, .iinc 2 1, 3, 2, 0, .int 1), (51, .goto (-39), 3, 0, 12, .null), (54, .iconst 1, 1, 0, 0, .int 1), (55, .ireturn, 1, 0, 0, .null)]
theorem ok_Re_either : cd_Re_either.all (mm_k M_Re_either) = true := by decide +kernel
abbrev M_Re_both : mm_M := (⟨"SchoolOnRaft$Reader", "both", "(I)Z"⟩, prog_8_method_5_code, 3, (some .boolean))
def cd_Re_both : List mm_E := [(0, .aload_n 0, 1, 0, 0, .null), (1, .iload_n 1, 1, 1, 0, .null), (2, .invokevirtual 60, 3, 0, 0, .null), (5, .ifCond .ne 5, 3, 0, 10, .null), (8, .iconst 0, 1, 0, 0, .int 0), (9, .ireturn, 1, 0, 0, .null), (10, .iconst 0, 1, 0, 0, .int 0), (11, .istore_n 2, 1, 2, 0, .null), (12, .iload_n 2, 1, 2, 0, .null), (13, .sipush 160, 3, 0, 0, .int 160), (16, .if_icmp .ge 38, 3, 0, 54, .null), (19, .aload_n 0, 1, 0, 0, .null), (20, .getfield 34, 3, 6, 4, .null), (23, .bipush (-8), 2, 0, 0, .int (-8)), (25, .if_icmp .ne 29, 3, 0, 54, .null), (28, .aload_n 0, 1, 0, 0, .null), (29, .invokevirtual 22, 3, 0, 0, .null), (32, .aload_n 0, 1, 0, 0, .null), (33, .iload_n 1, 1, 1, 0, .null), (34, .invokevirtual 60, 3, 0, 0, .null), (37, .ifCond .ne 5, 3, 0, 42, .null), (40, .iconst 0, 1, 0, 0, .int 0), (41, .ireturn, 1, 0, 0, .null), (42, .aload_n 0, 1, 0, 0, .null), (43, .bipush (-8), 2, 0, 0, .int (-8)), (45, .invokevirtual 56, 3, 0, 0, .null), (48, .iinc 2 1, 3, 2, 0, .int 1), (51, .goto (-39), 3, 0, 12, .null), (54, .iconst 1, 1, 0, 0, .int 1), (55, .ireturn, 1, 0, 0, .null)]
theorem ok_Re_both : cd_Re_both.all (mm_k M_Re_both) = true := by decide +kernel
abbrev M_Re_denied : mm_M := (⟨"SchoolOnRaft$Reader", "denied", "(I)Z"⟩, prog_8_method_6_code, 2, (some .boolean))
def cd_Re_denied : List mm_E := [(0, .aload_n 0, 1, 0, 0, .null), (1, .getfield 34, 3, 6, 4, .null), (4, .bipush (-9), 2, 0, 0, .int (-9)), (6, .if_icmp .eq 9, 3, 0, 15, .null), (9, .aload_n 0, 1, 0, 0, .null), (10, .iload_n 1, 1, 1, 0, .null), (11, .invokevirtual 63, 3, 0, 0, .null), (14, .ireturn, 1, 0, 0, .null), (15, .iload_n 1, 1, 1, 0, .null), (16, .iconst 5, 1, 0, 0, .int 5), (17, .if_icmp .lt 5, 3, 0, 22, .null), (20, .iconst 0, 1, 0, 0, .int 0), (21, .ireturn, 1, 0, 0, .null), (22, .aload_n 0, 1, 0, 0, .null), (23, .invokevirtual 22, 3, 0, 0, .null), (26, .aload_n 0, 1, 0, 0, .null), (27, .iload_n 1, 1, 1, 0, .null), (28, .iconst 1, 1, 0, 0, .int 1), (29, .iadd, 1, 0, 0, .null), (30, .invokevirtual 60, 3, 0, 0, .null), (33, .ifCond .ne 5, 3, 0, 38, .null), (36, .iconst 0, 1, 0, 0, .int 0), (37, .ireturn, 1, 0, 0, .null), (38, .aload_n 0, 1, 0, 0, .null), (39, .bipush (-9), 2, 0, 0, .int (-9)), (41, .invokevirtual 56, 3, 0, 0, .null), (44, .iconst 1, 1, 0, 0, .int 1), (45, .ireturn, 1, 0, 0, .null)]
theorem ok_Re_denied : cd_Re_denied.all (mm_k M_Re_denied) = true := by decide +kernel
abbrev M_Re_compared : mm_M := (⟨"SchoolOnRaft$Reader", "compared", "(I)Z"⟩, prog_8_method_7_code, 3, (some .boolean))
def cd_Re_compared : List mm_E := [(0, .aload_n 0, 1, 0, 0, .null), (1, .iload_n 1, 1, 1, 0, .null), (2, .invokevirtual 66, 3, 0, 0, .null), (5, .ifCond .ne 5, 3, 0, 10, .null), (8, .iconst 0, 1, 0, 0, .int 0), (9, .ireturn, 1, 0, 0, .null), (10, .aload_n 0, 1, 0, 0, .null), (11, .getfield 34, 3, 6, 4, .null), (14, .bipush (-10), 2, 0, 0, .int (-10)), (16, .if_icmp .eq 14, 3, 0, 30, .null), (19, .aload_n 0, 1, 0, 0, .null), (20, .getfield 34, 3, 6, 4, .null), (23, .bipush (-11), 2, 0, 0, .int (-11)), (25, .if_icmp .eq 5, 3, 0, 30, .null), (28, .iconst 1, 1, 0, 0, .int 1), (29, .ireturn, 1, 0, 0, .null), (30, .aload_n 0, 1, 0, 0, .null), (31, .getfield 34, 3, 6, 4, .null), (34, .istore_n 2, 1, 2, 0, .null), (35, .aload_n 0, 1, 0, 0, .null), (36, .invokevirtual 22, 3, 0, 0, .null), (39, .aload_n 0, 1, 0, 0, .null), (40, .iload_n 1, 1, 1, 0, .null), (41, .invokevirtual 66, 3, 0, 0, .null), (44, .ifCond .ne 5, 3, 0, 49, .null), (47, .iconst 0, 1, 0, 0, .int 0), (48, .ireturn, 1, 0, 0, .null), (49, .aload_n 0, 1, 0, 0, .null), (50, .iload_n 2, 1, 2, 0, .null), (51, .invokevirtual 56, 3, 0, 0, .null), (54, .iconst 1, 1, 0, 0, .int 1), (55, .ireturn, 1, 0, 0, .null)]
theorem ok_Re_compared : cd_Re_compared.all (mm_k M_Re_compared) = true := by decide +kernel
abbrev M_Re_sum : mm_M := (⟨"SchoolOnRaft$Reader", "sum", "(I)Z"⟩, prog_8_method_8_code, 4, (some .boolean))
def cd_Re_sum : List mm_E := [(0, .aload_n 0, 1, 0, 0, .null), (1, .iload_n 1, 1, 1, 0, .null), (2, .invokevirtual 69, 3, 0, 0, .null), (5, .ifCond .ne 5, 3, 0, 10, .null), (8, .iconst 0, 1, 0, 0, .int 0), (9, .ireturn, 1, 0, 0, .null), (10, .iconst 0, 1, 0, 0, .int 0), (11, .istore_n 2, 1, 2, 0, .null), (12, .iload_n 2, 1, 2, 0, .null), (13, .sipush 160, 3, 0, 0, .int 160), (16, .if_icmp .ge 51, 3, 0, 67, .null), (19, .aload_n 0, 1, 0, 0, .null), (20, .getfield 34, 3, 6, 4, .null), (23, .bipush (-12), 2, 0, 0, .int (-12)), (25, .if_icmp .eq 12, 3, 0, 37, .null), (28, .aload_n 0, 1, 0, 0, .null), (29, .getfield 34, 3, 6, 4, .null), (32, .bipush (-13), 2, 0, 0, .int (-13)), (34, .if_icmp .ne 33, 3, 0, 67, .null), (37, .aload_n 0, 1, 0, 0, .null), (38, .getfield 34, 3, 6, 4, .null), (41, .istore_n 3, 1, 3, 0, .null), (42, .aload_n 0, 1, 0, 0, .null), (43, .invokevirtual 22, 3, 0, 0, .null), (46, .aload_n 0, 1, 0, 0, .null), (47, .iload_n 1, 1, 1, 0, .null), (48, .invokevirtual 69, 3, 0, 0, .null), (51, .ifCond .ne 5, 3, 0, 56, .null), (54, .iconst 0, 1, 0, 0, .int 0), (55, .ireturn, 1, 0, 0, .null), (56, .aload_n 0, 1, 0, 0, .null), (57, .iload_n 3, 1, 3, 0, .null), (58, .invokevirtual 56, 3, 0, 0, .null), (61, .iinc 2 1, 3, 2, 0, .int 1), (64, .goto (-52), 3, 0, 12, .null), (67, .iconst 1, 1, 0, 0, .int 1), (68, .ireturn, 1, 0, 0, .null)]
theorem ok_Re_sum : cd_Re_sum.all (mm_k M_Re_sum) = true := by decide +kernel
abbrev M_Re_term : mm_M := (⟨"SchoolOnRaft$Reader", "term", "(I)Z"⟩, prog_8_method_9_code, 3, (some .boolean))
def cd_Re_term : List mm_E := [(0, .aload_n 0, 1, 0, 0, .null), (1, .iload_n 1, 1, 1, 0, .null), (2, .invokevirtual 72, 3, 0, 0, .null), (5, .ifCond .ne 5, 3, 0, 10, .null), (8, .iconst 0, 1, 0, 0, .int 0), (9, .ireturn, 1, 0, 0, .null), (10, .iconst 0, 1, 0, 0, .int 0), (11, .istore_n 2, 1, 2, 0, .null), (12, .iload_n 2, 1, 2, 0, .null), (13, .sipush 160, 3, 0, 0, .int 160), (16, .if_icmp .ge 38, 3, 0, 54, .null), (19, .aload_n 0, 1, 0, 0, .null), (20, .getfield 34, 3, 6, 4, .null), (23, .bipush (-14), 2, 0, 0, .int (-14)), (25, .if_icmp .ne 29, 3, 0, 54, .null), (28, .aload_n 0, 1, 0, 0, .null), (29, .invokevirtual 22, 3, 0, 0, .null), (32, .aload_n 0, 1, 0, 0, .null), (33, .iload_n 1, 1, 1, 0, .null), (34, .invokevirtual 72, 3, 0, 0, .null), (37, .ifCond .ne 5, 3, 0, 42, .null), (40, .iconst 0, 1, 0, 0, .int 0), (41, .ireturn, 1, 0, 0, .null), (42, .aload_n 0, 1, 0, 0, .null), (43, .bipush (-14), 2, 0, 0, .int (-14)), (45, .invokevirtual 56, 3, 0, 0, .null), (48, .iinc 2 1, 3, 2, 0, .int 1), (51, .goto (-39), 3, 0, 12, .null), (54, .iconst 1, 1, 0, 0, .int 1), (55, .ireturn, 1, 0, 0, .null)]
theorem ok_Re_term : cd_Re_term.all (mm_k M_Re_term) = true := by decide +kernel
abbrev M_Re_one : mm_M := (⟨"SchoolOnRaft$Reader", "one", "(I)Z"⟩, prog_8_method_10_code, 2, (some .boolean))
def cd_Re_one : List mm_E := [(0, .aload_n 0, 1, 0, 0, .null), (1, .getfield 34, 3, 6, 4, .null), (4, .bipush (-6), 2, 0, 0, .int (-6)), (6, .if_icmp .lt 17, 3, 0, 23, .null), (9, .aload_n 0, 1, 0, 0, .null), (10, .aload_n 0, 1, 0, 0, .null), (11, .getfield 34, 3, 6, 4, .null), (14, .invokevirtual 56, 3, 0, 0, .null), (17, .aload_n 0, 1, 0, 0, .null), (18, .invokevirtual 22, 3, 0, 0, .null), (21, .iconst 1, 1, 0, 0, .int 1), (22, .ireturn, 1, 0, 0, .null), (23, .aload_n 0, 1, 0, 0, .null), (24, .getfield 34, 3, 6, 4, .null), (27, .bipush (-13), 2, 0, 0, .int (-13)), (29, .if_icmp .ne 32, 3, 0, 61, .null), (32, .iload_n 1, 1, 1, 0, .null), (33, .iconst 5, 1, 0, 0, .int 5), (34, .if_icmp .ge 27, 3, 0, 61, .null), (37, .aload_n 0, 1, 0, 0, .null), (38, .invokevirtual 22, 3, 0, 0, .null), (41, .aload_n 0, 1, 0, 0, .null), (42, .iload_n 1, 1, 1, 0, .null), (43, .iconst 1, 1, 0, 0, .int 1), (44, .iadd, 1, 0, 0, .null), (45, .invokevirtual 72, 3, 0, 0, .null), (48, .ifCond .ne 5, 3, 0, 53, .null), (51, .iconst 0, 1, 0, 0, .int 0), (52, .ireturn, 1, 0, 0, .null), (53, .aload_n 0, 1, 0, 0, .null), (54, .bipush (-15), 2, 0, 0, .int (-15)), (56, .invokevirtual 56, 3, 0, 0, .null), (59, .iconst 1, 1, 0, 0, .int 1), (60, .ireturn, 1, 0, 0, .null), (61, .aload_n 0, 1, 0, 0, .null), (62, .getfield 34, 3, 6, 4, .null), (65, .bipush (-16), 2, 0, 0, .int (-16)), (67, .if_icmp .ne 39, 3, 0, 106, .null), (70, .iload_n 1, 1, 1, 0, .null), (71, .iconst 5, 1, 0, 0, .int 5), (72, .if_icmp .ge 34, 3, 0, 106, .null), (75, .aload_n 0, 1, 0, 0, .null), (76, .invokevirtual 22, 3, 0, 0, .null), (79, .aload_n 0, 1, 0, 0, .null), (80, .iload_n 1, 1, 1, 0, .null), (81, .iconst 1, 1, 0, 0, .int 1), (82, .iadd, 1, 0, 0, .null), (83, .invokevirtual 43, 3, 0, 0, .null), (86, .ifCond .eq 12, 3, 0, 98, .null), (89, .aload_n 0, 1, 0, 0, .null), (90, .getfield 34, 3, 6, 4, .null), (93, .bipush (-17), 2, 0, 0, .int (-17)), (95, .if_icmp .eq 5, 3, 0, 100, .null), (98, .iconst 0, 1, 0, 0, .int 0), (99, .ireturn, 1, 0, 0, .null), (100, .aload_n 0, 1, 0, 0, .null), (101, .invokevirtual 22, 3, 0, 0, .null), (104, .iconst 1, 1, 0, 0, .int 1), (105, .ireturn, 1, 0, 0, .null), (106, .iconst 0, 1, 0, 0, .int 0), (107, .ireturn, 1, 0, 0, .null)]
theorem ok_Re_one : cd_Re_one.all (mm_k M_Re_one) = true := by decide +kernel
abbrev M_Re_write : mm_M := (⟨"SchoolOnRaft$Reader", "write", "(I)V"⟩, prog_8_method_11_code, 2, none)
def cd_Re_write : List mm_E := [(0, .aload_n 0, 1, 0, 0, .null), (1, .getfield 40, 3, 6, 6, .null), (4, .aload_n 0, 1, 0, 0, .null), (5, .getfield 15, 3, 6, 5, .null), (8, .arraylength, 1, 0, 0, .null), (9, .if_icmp .ge 23, 3, 0, 32, .null), (12, .aload_n 0, 1, 0, 0, .null), (13, .getfield 15, 3, 6, 5, .null), (16, .aload_n 0, 1, 0, 0, .null), (17, .getfield 40, 3, 6, 6, .null), (20, .iload_n 1, 1, 1, 0, .null), (21, .iastore, 1, 0, 0, .null), (22, .aload_n 0, 1, 0, 0, .null), (23, .dup, 1, 0, 0, .null), (24, .getfield 40, 3, 6, 6, .null), (27, .iconst 1, 1, 0, 0, .int 1), (28, .iadd, 1, 0, 0, .null), (29, .putfield 40, 3, 6, 6, .null), (32, .return_, 1, 0, 0, .null)]
theorem ok_Re_write : cd_Re_write.all (mm_k M_Re_write) = true := by decide +kernel
abbrev M_Re_advance : mm_M := (⟨"SchoolOnRaft$Reader", "advance", "()V"⟩, prog_8_method_12_code, 1, none)
def cd_Re_advance : List mm_E := [(0, .aload_n 0, 1, 0, 0, .null), (1, .getfield 18, 3, 6, 3, .null), (4, .aload_n 0, 1, 0, 0, .null), (5, .getfield 31, 3, 6, 1, .null), (8, .if_icmp .ge 44, 3, 0, 52, .null), (11, .aload_n 0, 1, 0, 0, .null), (12, .getfield 9, 3, 6, 0, .null), (15, .aload_n 0, 1, 0, 0, .null), (16, .getfield 18, 3, 6, 3, .null), (19, .iaload, 1, 0, 0, .null), (20, .bipush 32, 2, 0, 0, .int 32), (22, .if_icmp .eq 17, 3, 0, 39, .null), (25, .aload_n 0, 1, 0, 0, .null), (26, .getfield 9, 3, 6, 0, .null), (29, .aload_n 0, 1, 0, 0, .null), (30, .getfield 18, 3, 6, 3, .null), (33, .iaload, 1, 0, 0, .null), (34, .bipush 10, 2, 0, 0, .int 10), (36, .if_icmp .ne 16, 3, 0, 52, .null), (39, .aload_n 0, 1, 0, 0, .null), (40, .dup, 1, 0, 0, .null), (41, .getfield 18, 3, 6, 3, .null), (44, .iconst 1, 1, 0, 0, .int 1), (45, .iadd, 1, 0, 0, .null), (46, .putfield 18, 3, 6, 3, .null), (49, .goto (-49), 3, 0, 0, .null), (52, .aload_n 0, 1, 0, 0, .null), (53, .aload_n 0, 1, 0, 0, .null), (54, .getfield 18, 3, 6, 3, .null), (57, .putfield 75, 3, 6, 2, .null), (60, .aload_n 0, 1, 0, 0, .null), (61, .getfield 18, 3, 6, 3, .null), (64, .aload_n 0, 1, 0, 0, .null), (65, .getfield 31, 3, 6, 1, .null), (68, .if_icmp .lt 12, 3, 0, 80, .null), (71, .aload_n 0, 1, 0, 0, .null), (72, .bipush (-22), 2, 0, 0, .int (-22)), (74, .putfield 34, 3, 6, 4, .null), (77, .goto 81, 3, 0, 158, .null), (80, .aload_n 0, 1, 0, 0, .null), (81, .getfield 9, 3, 6, 0, .null), (84, .aload_n 0, 1, 0, 0, .null), (85, .getfield 18, 3, 6, 3, .null), (88, .iaload, 1, 0, 0, .null), (89, .invokestatic 78, 3, 0, 0, .null), (92, .ifCond .eq 14, 3, 0, 106, .null), (95, .aload_n 0, 1, 0, 0, .null), (96, .aload_n 0, 1, 0, 0, .null), (97, .invokevirtual 81, 3, 0, 0, .null), (100, .putfield 34, 3, 6, 4, .null), (103, .goto 55, 3, 0, 158, .null), (106, .aload_n 0, 1, 0, 0, .null), (107, .getfield 9, 3, 6, 0, .null), (110, .aload_n 0, 1, 0, 0, .null), (111, .getfield 18, 3, 6, 3, .null), (114, .iaload, 1, 0, 0, .null), (115, .invokestatic 85, 3, 0, 0, .null), (118, .ifCond .eq 14, 3, 0, 132, .null), (121, .aload_n 0, 1, 0, 0, .null), (122, .aload_n 0, 1, 0, 0, .null), (123, .invokevirtual 88, 3, 0, 0, .null), (126, .putfield 34, 3, 6, 4, .null), (129, .goto 29, 3, 0, 158, .null), (132, .aload_n 0, 1, 0, 0, .null), (133, .aload_n 0, 1, 0, 0, .null), (134, .getfield 9, 3, 6, 0, .null), (137, .aload_n 0, 1, 0, 0, .null), (138, .getfield 18, 3, 6, 3, .null), (141, .iaload, 1, 0, 0, .null), (142, .invokestatic 91, 3, 0, 0, .null), (145, .putfield 34, 3, 6, 4, .null), (148, .aload_n 0, 1, 0, 0, .null), (149, .dup, 1, 0, 0, .null), (150, .getfield 18, 3, 6, 3, .null), (153, .iconst 1, 1, 0, 0, .int 1), (154, .iadd, 1, 0, 0, .null), (155, .putfield 18, 3, 6, 3, .null), (158, .return_, 1, 0, 0, .null)]
theorem ok_Re_advance : cd_Re_advance.all (mm_k M_Re_advance) = true := by decide +kernel
abbrev M_Re_number : mm_M := (⟨"SchoolOnRaft$Reader", "number", "()I"⟩, prog_8_method_13_code, 2, (some .int))
def cd_Re_number : List mm_E := [(0, .iconst 0, 1, 0, 0, .int 0), (1, .istore_n 1, 1, 1, 0, .null), (2, .aload_n 0, 1, 0, 0, .null), (3, .getfield 18, 3, 6, 3, .null), (6, .aload_n 0, 1, 0, 0, .null), (7, .getfield 31, 3, 6, 1, .null), (10, .if_icmp .ge 49, 3, 0, 59, .null), (13, .aload_n 0, 1, 0, 0, .null), (14, .getfield 9, 3, 6, 0, .null), (17, .aload_n 0, 1, 0, 0, .null), (18, .getfield 18, 3, 6, 3, .null), (21, .iaload, 1, 0, 0, .null), (22, .invokestatic 78, 3, 0, 0, .null), (25, .ifCond .eq 34, 3, 0, 59, .null), (28, .iload_n 1, 1, 1, 0, .null), (29, .bipush 10, 2, 0, 0, .int 10), (31, .imul, 1, 0, 0, .null), (32, .aload_n 0, 1, 0, 0, .null), (33, .getfield 9, 3, 6, 0, .null), (36, .aload_n 0, 1, 0, 0, .null), (37, .getfield 18, 3, 6, 3, .null), (40, .iaload, 1, 0, 0, .null), (41, .iadd, 1, 0, 0, .null), (42, .bipush 48, 2, 0, 0, .int 48), (44, .isub, 1, 0, 0, .null), (45, .istore_n 1, 1, 1, 0, .null), (46, .aload_n 0, 1, 0, 0, .null), (47, .dup, 1, 0, 0, .null), (48, .getfield 18, 3, 6, 3, .null), (51, .iconst 1, 1, 0, 0, .int 1), (52, .iadd, 1, 0, 0, .null), (53, .putfield 18, 3, 6, 3, .null), (56, .goto (-54), 3, 0, 2, .null), (59, .aload_n 0, 1, 0, 0, .null), (60, .getfield 18, 3, 6, 3, .null), (63, .aload_n 0, 1, 0, 0, .null), (64, .getfield 75, 3, 6, 2, .null), (67, .isub, 1, 0, 0, .null), (68, .iconst 4, 1, 0, 0, .int 4), (69, .if_icmp .le 8, 3, 0, 77, .null), (72, .bipush (-23), 2, 0, 0, .int (-23)), (74, .goto 4, 3, 0, 78, .null), (77, .iload_n 1, 1, 1, 0, .null), (78, .ireturn, 1, 0, 0, .null)]
theorem ok_Re_number : cd_Re_number.all (mm_k M_Re_number) = true := by decide +kernel
abbrev M_Re_word : mm_M := (⟨"SchoolOnRaft$Reader", "word", "()I"⟩, prog_8_method_14_code, 1, (some .int))
def cd_Re_word : List mm_E := [(0, .aload_n 0, 1, 0, 0, .null), (1, .getfield 18, 3, 6, 3, .null), (4, .aload_n 0, 1, 0, 0, .null), (5, .getfield 31, 3, 6, 1, .null), (8, .if_icmp .ge 31, 3, 0, 39, .null), (11, .aload_n 0, 1, 0, 0, .null), (12, .getfield 9, 3, 6, 0, .null), (15, .aload_n 0, 1, 0, 0, .null), (16, .getfield 18, 3, 6, 3, .null), (19, .iaload, 1, 0, 0, .null), (20, .invokestatic 85, 3, 0, 0, .null), (23, .ifCond .eq 16, 3, 0, 39, .null), (26, .aload_n 0, 1, 0, 0, .null), (27, .dup, 1, 0, 0, .null), (28, .getfield 18, 3, 6, 3, .null), (31, .iconst 1, 1, 0, 0, .int 1), (32, .iadd, 1, 0, 0, .null), (33, .putfield 18, 3, 6, 3, .null), (36, .goto (-36), 3, 0, 0, .null), (39, .aload_n 0, 1, 0, 0, .null), (40, .ldc 95, 2, 0, 0, .retAddr 0), (42, .invokevirtual 97, 3, 0, 0, .null), (45, .ifCond .eq 5, 3, 0, 50, .null), (48, .iconst (-1), 1, 0, 0, .int (-1)), (49, .ireturn, 1, 0, 0, .null), (50, .aload_n 0, 1, 0, 0, .null), (51, .ldc 101, 2, 0, 0, .retAddr 1), (53, .invokevirtual 97, 3, 0, 0, .null), (56, .ifCond .eq 6, 3, 0, 62, .null), (59, .bipush (-2), 2, 0, 0, .int (-2)), (61, .ireturn, 1, 0, 0, .null), (62, .aload_n 0, 1, 0, 0, .null), (63, .ldc 103, 2, 0, 0, .retAddr 2), (65, .invokevirtual 97, 3, 0, 0, .null), (68, .ifCond .eq 6, 3, 0, 74, .null), (71, .bipush (-3), 2, 0, 0, .int (-3)), (73, .ireturn, 1, 0, 0, .null), (74, .aload_n 0, 1, 0, 0, .null), (75, .ldc 105, 2, 0, 0, .retAddr 3), (77, .invokevirtual 97, 3, 0, 0, .null), (80, .ifCond .eq 6, 3, 0, 86, .null), (83, .bipush (-4), 2, 0, 0, .int (-4)), (85, .ireturn, 1, 0, 0, .null), (86, .aload_n 0, 1, 0, 0, .null), (87, .ldc 107, 2, 0, 0, .retAddr 4), (89, .invokevirtual 97, 3, 0, 0, .null), (92, .ifCond .eq 6, 3, 0, 98, .null), (95, .bipush (-5), 2, 0, 0, .int (-5)), (97, .ireturn, 1, 0, 0, .null), (98, .aload_n 0, 1, 0, 0, .null), (99, .ldc 109, 2, 0, 0, .retAddr 5), (101, .invokevirtual 97, 3, 0, 0, .null), (104, .ifCond .eq 6, 3, 0, 110, .null), (107, .bipush (-6), 2, 0, 0, .int (-6)), (109, .ireturn, 1, 0, 0, .null), (110, .aload_n 0, 1, 0, 0, .null), (111, .ldc 111, 2, 0, 0, .retAddr 6), (113, .invokevirtual 97, 3, 0, 0, .null), (116, .ifCond .eq 6, 3, 0, 122, .null), (119, .bipush (-7), 2, 0, 0, .int (-7)), (121, .ireturn, 1, 0, 0, .null), (122, .aload_n 0, 1, 0, 0, .null), (123, .ldc 113, 2, 0, 0, .retAddr 7), (125, .invokevirtual 97, 3, 0, 0, .null), (128, .ifCond .eq 6, 3, 0, 134, .null), (131, .bipush (-8), 2, 0, 0, .int (-8)), (133, .ireturn, 1, 0, 0, .null), (134, .aload_n 0, 1, 0, 0, .null), (135, .ldc 115, 2, 0, 0, .retAddr 8), (137, .invokevirtual 97, 3, 0, 0, .null), (140, .ifCond .eq 6, 3, 0, 146, .null), (143, .bipush (-9), 2, 0, 0, .int (-9)), (145, .ireturn, 1, 0, 0, .null), (146, .aload_n 0, 1, 0, 0, .null), (147, .ldc 117, 2, 0, 0, .retAddr 9), (149, .invokevirtual 97, 3, 0, 0, .null), (152, .ifCond .eq 6, 3, 0, 158, .null), (155, .bipush (-19), 2, 0, 0, .int (-19)), (157, .ireturn, 1, 0, 0, .null), (158, .aload_n 0, 1, 0, 0, .null), (159, .ldc 119, 2, 0, 0, .retAddr 10), (161, .invokevirtual 97, 3, 0, 0, .null), (164, .ifCond .eq 6, 3, 0, 170, .null), (167, .bipush (-20), 2, 0, 0, .int (-20)), (169, .ireturn, 1, 0, 0, .null), (170, .aload_n 0, 1, 0, 0, .null), (171, .ldc 121, 2, 0, 0, .retAddr 11), (173, .invokevirtual 97, 3, 0, 0, .null), (176, .ifCond .eq 8, 3, 0, 184, .null), (179, .bipush (-21), 2, 0, 0, .int (-21)), (181, .goto 5, 3, 0, 186, .null), (184, .bipush (-23), 2, 0, 0, .int (-23)), (186, .ireturn, 1, 0, 0, .null)]
theorem ok_Re_word : cd_Re_word.all (mm_k M_Re_word) = true := by decide +kernel
abbrev M_Re_reads : mm_M := (⟨"SchoolOnRaft$Reader", "reads", "(Ljava/lang/String;)Z"⟩, prog_8_method_15_code, 3, (some .boolean))
def cd_Re_reads : List mm_E := [(0, .aload_n 0, 1, 0, 0, .null), (1, .getfield 18, 3, 6, 3, .null), (4, .aload_n 0, 1, 0, 0, .null), (5, .getfield 75, 3, 6, 2, .null), (8, .isub, 1, 0, 0, .null), (9, .aload_n 1, 1, 1, 0, .null), (10, .invokevirtual 123, 3, 0, 0, .null), (13, .if_icmp .eq 5, 3, 0, 18, .null), (16, .iconst 0, 1, 0, 0, .int 0), (17, .ireturn, 1, 0, 0, .null), (18, .iconst 0, 1, 0, 0, .int 0), (19, .istore_n 2, 1, 2, 0, .null), (20, .iload_n 2, 1, 2, 0, .null), (21, .aload_n 1, 1, 1, 0, .null), (22, .invokevirtual 123, 3, 0, 0, .null), (25, .if_icmp .ge 30, 3, 0, 55, .null), (28, .aload_n 0, 1, 0, 0, .null), (29, .getfield 9, 3, 6, 0, .null), (32, .aload_n 0, 1, 0, 0, .null), (33, .getfield 75, 3, 6, 2, .null), (36, .iload_n 2, 1, 2, 0, .null), (37, .iadd, 1, 0, 0, .null), (38, .iaload, 1, 0, 0, .null), (39, .aload_n 1, 1, 1, 0, .null), (40, .iload_n 2, 1, 2, 0, .null), (41, .invokevirtual 128, 3, 0, 0, .null), (44, .if_icmp .eq 5, 3, 0, 49, .null), (47, .iconst 0, 1, 0, 0, .int 0), (48, .ireturn, 1, 0, 0, .null), (49, .iinc 2 1, 3, 2, 0, .int 1), (52, .goto (-32), 3, 0, 20, .null), (55, .iconst 1, 1, 0, 0, .int 1), (56, .ireturn, 1, 0, 0, .null)]
theorem ok_Re_reads : cd_Re_reads.all (mm_k M_Re_reads) = true := by decide +kernel
abbrev M_Re_sign : mm_M := (⟨"SchoolOnRaft$Reader", "sign", "(I)I"⟩, prog_8_method_16_code, 1, (some .int))
def cd_Re_sign : List mm_E := [(0, .iload_n 0, 1, 0, 0, .null), (1, .tableswitch 127 40 61 #[103, 106, 118, 112, 127, 115, 127, 127, 127, 127, 127, 127, 127, 127, 127, 127, 127, 127, 127, 109, 121, 124], 103, 0, 0, .null), (104, .bipush (-16), 2, 0, 0, .int (-16)), (106, .ireturn, 1, 0, 0, .null), (107, .bipush (-17), 2, 0, 0, .int (-17)), (109, .ireturn, 1, 0, 0, .null), (110, .bipush (-18), 2, 0, 0, .int (-18)), (112, .ireturn, 1, 0, 0, .null), (113, .bipush (-12), 2, 0, 0, .int (-12)), (115, .ireturn, 1, 0, 0, .null), (116, .bipush (-13), 2, 0, 0, .int (-13)), (118, .ireturn, 1, 0, 0, .null), (119, .bipush (-14), 2, 0, 0, .int (-14)), (121, .ireturn, 1, 0, 0, .null), (122, .bipush (-10), 2, 0, 0, .int (-10)), (124, .ireturn, 1, 0, 0, .null), (125, .bipush (-11), 2, 0, 0, .int (-11)), (127, .ireturn, 1, 0, 0, .null), (128, .bipush (-23), 2, 0, 0, .int (-23)), (130, .ireturn, 1, 0, 0, .null)]
theorem ok_Re_sign : cd_Re_sign.all (mm_k M_Re_sign) = true := by decide +kernel
abbrev M_Re_isDigit : mm_M := (⟨"SchoolOnRaft$Reader", "isDigit", "(I)Z"⟩, prog_8_method_17_code, 1, (some .boolean))
def cd_Re_isDigit : List mm_E := [(0, .iload_n 0, 1, 0, 0, .null), (1, .bipush 48, 2, 0, 0, .int 48), (3, .if_icmp .lt 13, 3, 0, 16, .null), (6, .iload_n 0, 1, 0, 0, .null), (7, .bipush 57, 2, 0, 0, .int 57), (9, .if_icmp .gt 7, 3, 0, 16, .null), (12, .iconst 1, 1, 0, 0, .int 1), (13, .goto 4, 3, 0, 17, .null), (16, .iconst 0, 1, 0, 0, .int 0), (17, .ireturn, 1, 0, 0, .null)]
theorem ok_Re_isDigit : cd_Re_isDigit.all (mm_k M_Re_isDigit) = true := by decide +kernel
abbrev M_Re_isLetter : mm_M := (⟨"SchoolOnRaft$Reader", "isLetter", "(I)Z"⟩, prog_8_method_18_code, 1, (some .boolean))
def cd_Re_isLetter : List mm_E := [(0, .iload_n 0, 1, 0, 0, .null), (1, .bipush 97, 2, 0, 0, .int 97), (3, .if_icmp .lt 13, 3, 0, 16, .null), (6, .iload_n 0, 1, 0, 0, .null), (7, .bipush 122, 2, 0, 0, .int 122), (9, .if_icmp .gt 7, 3, 0, 16, .null), (12, .iconst 1, 1, 0, 0, .int 1), (13, .goto 4, 3, 0, 17, .null), (16, .iconst 0, 1, 0, 0, .int 0), (17, .ireturn, 1, 0, 0, .null)]
theorem ok_Re_isLetter : cd_Re_isLetter.all (mm_k M_Re_isLetter) = true := by decide +kernel
abbrev M_Se_init : mm_M := (⟨"SchoolOnRaft$Search", "<init>", "()V"⟩, prog_9_method_1_code, 1, none)
def cd_Se_init : List mm_E := [(0, .aload_n 0, 1, 0, 0, .null), (1, .invokespecial 3, 3, 0, 0, .null), (4, .aload_n 0, 1, 0, 0, .null), (5, .bipush 6, 2, 0, 0, .int 6), (7, .newarray .int, 2, 0, 0, .null), (9, .putfield 9, 3, 7, 0, .null), (12, .aload_n 0, 1, 0, 0, .null), (13, .bipush 6, 2, 0, 0, .int 6), (15, .newarray .int, 2, 0, 0, .null), (17, .putfield 15, 3, 7, 3, .null), (20, .aload_n 0, 1, 0, 0, .null), (21, .bipush 42, 2, 0, 0, .int 42), (23, .newarray .int, 2, 0, 0, .null), (25, .putfield 18, 3, 7, 4, .null), (28, .aload_n 0, 1, 0, 0, .null), (29, .sipush 5040, 3, 0, 0, .int 5040), (32, .newarray .int, 2, 0, 0, .null), (34, .putfield 21, 3, 7, 5, .null), (37, .aload_n 0, 1, 0, 0, .null), (38, .sipush 840, 3, 0, 0, .int 840), (41, .newarray .int, 2, 0, 0, .null), (43, .putfield 24, 3, 7, 6, .null), (46, .return_, 1, 0, 0, .null)]
theorem ok_Se_init : cd_Se_init.all (mm_k M_Se_init) = true := by decide +kernel
abbrev M_Se_forget : mm_M := (⟨"SchoolOnRaft$Search", "forget", "()V"⟩, prog_9_method_2_code, 1, none)
def cd_Se_forget : List mm_E := [(0, .aload_n 0, 1, 0, 0, .null), (1, .iconst 0, 1, 0, 0, .int 0), (2, .putfield 27, 3, 7, 2, .null), (5, .return_, 1, 0, 0, .null)]
theorem ok_Se_forget : cd_Se_forget.all (mm_k M_Se_forget) = true := by decide +kernel
abbrev M_Se_find : mm_M := (⟨"SchoolOnRaft$Search", "find", "(LSchoolOnRaft$Spring;)V"⟩, prog_9_method_3_code, 2, none)
def cd_Se_find : List mm_E := [(0, .aload_n 0, 1, 0, 0, .null), (1, .getfield 27, 3, 7, 2, .null), (4, .ifCond .eq 4, 3, 0, 8, .null), (7, .return_, 1, 0, 0, .null), (8, .aload_n 0, 1, 0, 0, .null), (9, .getfield 21, 3, 7, 5, .null), (12, .iconst (-1), 1, 0, 0, .int (-1)), (13, .invokestatic 31, 3, 0, 0, .null), (16, .aload_n 0, 1, 0, 0, .null), (17, .getfield 24, 3, 7, 6, .null), (20, .iconst (-1), 1, 0, 0, .int (-1)), (21, .invokestatic 31, 3, 0, 0, .null), (24, .aload_n 0, 1, 0, 0, .null), (25, .getfield 18, 3, 7, 4, .null), (28, .iconst 0, 1, 0, 0, .int 0), (29, .invokestatic 31, 3, 0, 0, .null), (32, .aload_n 0, 1, 0, 0, .null), (33, .iconst (-1), 1, 0, 0, .int (-1)), (34, .putfield 37, 3, 7, 1, .null), (37, .aload_n 0, 1, 0, 0, .null), (38, .aload_n 1, 1, 1, 0, .null), (39, .iconst 0, 1, 0, 0, .int 0), (40, .invokevirtual 41, 3, 0, 0, .null), (43, .aload_n 0, 1, 0, 0, .null), (44, .iconst 1, 1, 0, 0, .int 1), (45, .putfield 27, 3, 7, 2, .null), (48, .return_, 1, 0, 0, .null)]
theorem ok_Se_find : cd_Se_find.all (mm_k M_Se_find) = true := by decide +kernel
abbrev M_Se_visit : mm_M := (⟨"SchoolOnRaft$Search", "visit", "(LSchoolOnRaft$Spring;I)V"⟩, prog_9_method_4_code, 4, none)
def cd_Se_visit : List mm_E := [(0, .iload_n 2, 1, 2, 0, .null), (1, .bipush 6, 2, 0, 0, .int 6), (3, .if_icmp .lt 9, 3, 0, 12, .null), (6, .aload_n 0, 1, 0, 0, .null), (7, .aload_n 1, 1, 1, 0, .null), (8, .invokevirtual 45, 3, 0, 0, .null), (11, .return_, 1, 0, 0, .null), (12, .iconst (-1), 1, 0, 0, .int (-1)), (13, .istore_n 3, 1, 3, 0, .null), (14, .iload_n 3, 1, 3, 0, .null), (15, .aload_n 1, 1, 1, 0, .null), (16, .getfield 49, 3, 9, 0, .null), (19, .getfield 55, 3, 0, 0, .null), (22, .if_icmp .ge 39, 3, 0, 61, .null), (25, .aload_n 0, 1, 0, 0, .null), (26, .aload_n 1, 1, 1, 0, .null), (27, .iload_n 2, 1, 2, 0, .null), (28, .iload_n 3, 1, 3, 0, .null), (29, .invokevirtual 60, 3, 0, 0, .null), (32, .ifCond .ne 8, 3, 0, 40, .null), (35, .iload_n 3, 1, 3, 0, .null), (36, .iconst (-1), 1, 0, 0, .int (-1)), (37, .if_icmp .ne 18, 3, 0, 55, .null), (40, .aload_n 0, 1, 0, 0, .null), (41, .getfield 15, 3, 7, 3, .null), (44, .iload_n 2, 1, 2, 0, .null), (45, .iload_n 3, 1, 3, 0, .null), (46, .iastore, 1, 0, 0, .null), (47, .aload_n 0, 1, 0, 0, .null), (48, .aload_n 1, 1, 1, 0, .null), (49, .iload_n 2, 1, 2, 0, .null), (50, .iconst 1, 1, 0, 0, .int 1), (51, .iadd, 1, 0, 0, .null), (52, .invokevirtual 41, 3, 0, 0, .null), (55, .iinc 3 1, 3, 3, 0, .int 1), (58, .goto (-44), 3, 0, 14, .null), (61, .return_, 1, 0, 0, .null)]
theorem ok_Se_visit : cd_Se_visit.all (mm_k M_Se_visit) = true := by decide +kernel
abbrev M_Se_step : mm_M := (⟨"SchoolOnRaft$Search", "step", "(LSchoolOnRaft$Spring;II)Z"⟩, prog_9_method_5_code, 9, (some .boolean))
def cd_Se_step : List mm_E := [(0, .iconst 0, 1, 0, 0, .int 0), (1, .istore 4, 2, 4, 0, .null), (3, .iconst 0, 1, 0, 0, .int 0), (4, .istore 5, 2, 5, 0, .null), (6, .iload 5, 2, 5, 0, .null), (8, .aload_n 1, 1, 1, 0, .null), (9, .getfield 49, 3, 9, 0, .null), (12, .getfield 64, 3, 0, 1, .null), (15, .if_icmp .ge 115, 3, 0, 130, .null), (18, .aload_n 0, 1, 0, 0, .null), (19, .getfield 18, 3, 7, 4, .null), (22, .iload_n 2, 1, 2, 0, .null), (23, .bipush 6, 2, 0, 0, .int 6), (25, .imul, 1, 0, 0, .null), (26, .iload 5, 2, 5, 0, .null), (28, .iadd, 1, 0, 0, .null), (29, .iaload, 1, 0, 0, .null), (30, .istore 6, 2, 6, 0, .null), (32, .iload 6, 2, 6, 0, .null), (34, .istore 7, 2, 7, 0, .null), (36, .iload_n 2, 1, 2, 0, .null), (37, .aload_n 1, 1, 1, 0, .null), (38, .getfield 49, 3, 9, 0, .null), (41, .getfield 67, 3, 0, 6, .null), (44, .iload 5, 2, 5, 0, .null), (46, .iaload, 1, 0, 0, .null), (47, .if_icmp .lt 21, 3, 0, 68, .null), (50, .iload_n 2, 1, 2, 0, .null), (51, .aload_n 1, 1, 1, 0, .null), (52, .getfield 49, 3, 9, 0, .null), (55, .getfield 70, 3, 0, 7, .null), (58, .iload 5, 2, 5, 0, .null), (60, .iaload, 1, 0, 0, .null), (61, .if_icmp .gt 7, 3, 0, 68, .null), (64, .iconst 1, 1, 0, 0, .int 1), (65, .goto 4, 3, 0, 69, .null), (68, .iconst 0, 1, 0, 0, .int 0), (69, .istore 8, 2, 8, 0, .null), (71, .iload_n 3, 1, 3, 0, .null), (72, .iconst (-1), 1, 0, 0, .int (-1)), (73, .if_icmp .eq 35, 3, 0, 108, .null), (76, .iload 8, 2, 8, 0, .null), (78, .ifCond .eq 30, 3, 0, 108, .null), (81, .aload_n 0, 1, 0, 0, .null), (82, .aload_n 1, 1, 1, 0, .null), (83, .iload 5, 2, 5, 0, .null), (85, .iload_n 2, 1, 2, 0, .null), (86, .iload_n 3, 1, 3, 0, .null), (87, .iload 6, 2, 6, 0, .null), (89, .invokevirtual 73, 3, 0, 0, .null), (92, .ifCond .eq 16, 3, 0, 108, .null), (95, .aload_n 1, 1, 1, 0, .null), (96, .iload 6, 2, 6, 0, .null), (98, .iload_n 2, 1, 2, 0, .null), (99, .iload_n 3, 1, 3, 0, .null), (100, .invokevirtual 77, 3, 0, 0, .null), (103, .istore 7, 2, 7, 0, .null), (105, .iconst 1, 1, 0, 0, .int 1), (106, .istore 4, 2, 4, 0, .null), (108, .aload_n 0, 1, 0, 0, .null), (109, .getfield 18, 3, 7, 4, .null), (112, .iload_n 2, 1, 2, 0, .null), (113, .iconst 1, 1, 0, 0, .int 1), (114, .iadd, 1, 0, 0, .null), (115, .bipush 6, 2, 0, 0, .int 6), (117, .imul, 1, 0, 0, .null), (118, .iload 5, 2, 5, 0, .null), (120, .iadd, 1, 0, 0, .null), (121, .iload 7, 2, 7, 0, .null), (123, .iastore, 1, 0, 0, .null), (124, .iinc 5 1, 3, 5, 0, .int 1), (127, .goto (-121), 3, 0, 6, .null), (130, .iload 4, 2, 4, 0, .null), (132, .ireturn, 1, 0, 0, .null)]
theorem ok_Se_step : cd_Se_step.all (mm_k M_Se_step) = true := by decide +kernel
abbrev M_Se_listens : mm_M := (⟨"SchoolOnRaft$Search", "listens", "(LSchoolOnRaft$Spring;IIII)Z"⟩, prog_9_method_6_code, 9, (some .boolean))
def cd_Se_listens : List mm_E := [(0, .aload_n 1, 1, 1, 0, .null), (1, .iload 5, 2, 5, 0, .null), (3, .iload_n 3, 1, 3, 0, .null), (4, .invokevirtual 81, 3, 0, 0, .null), (7, .invokestatic 85, 3, 0, 0, .null), (10, .istore 6, 2, 6, 0, .null), (12, .iload 5, 2, 5, 0, .null), (14, .iload 4, 2, 4, 0, .null), (16, .invokestatic 91, 3, 0, 0, .null), (19, .istore 7, 2, 7, 0, .null), (21, .iload_n 3, 1, 3, 0, .null), (22, .bipush 6, 2, 0, 0, .int 6), (24, .imul, 1, 0, 0, .null), (25, .iload_n 2, 1, 2, 0, .null), (26, .iadd, 1, 0, 0, .null), (27, .iconst 4, 1, 0, 0, .int 4), (28, .imul, 1, 0, 0, .null), (29, .iload 4, 2, 4, 0, .null), (31, .iadd, 1, 0, 0, .null), (32, .iconst 5, 1, 0, 0, .int 5), (33, .imul, 1, 0, 0, .null), (34, .iload 6, 2, 6, 0, .null), (36, .iadd, 1, 0, 0, .null), (37, .bipush 7, 2, 0, 0, .int 7), (39, .imul, 1, 0, 0, .null), (40, .iload 7, 2, 7, 0, .null), (42, .iadd, 1, 0, 0, .null), (43, .istore 8, 2, 8, 0, .null), (45, .aload_n 0, 1, 0, 0, .null), (46, .getfield 21, 3, 7, 5, .null), (49, .iload 8, 2, 8, 0, .null), (51, .iaload, 1, 0, 0, .null), (52, .iconst (-1), 1, 0, 0, .int (-1)), (53, .if_icmp .ne 30, 3, 0, 83, .null), (56, .aload_n 0, 1, 0, 0, .null), (57, .getfield 21, 3, 7, 5, .null), (60, .iload 8, 2, 8, 0, .null), (62, .aload_n 1, 1, 1, 0, .null), (63, .iload_n 2, 1, 2, 0, .null), (64, .iload_n 3, 1, 3, 0, .null), (65, .iload 4, 2, 4, 0, .null), (67, .iload 6, 2, 6, 0, .null), (69, .iload 7, 2, 7, 0, .null), (71, .invokevirtual 94, 3, 0, 0, .null), (74, .ifCond .eq 7, 3, 0, 81, .null), (77, .iconst 1, 1, 0, 0, .int 1), (78, .goto 4, 3, 0, 82, .null), (81, .iconst 0, 1, 0, 0, .int 0), (82, .iastore, 1, 0, 0, .null), (83, .aload_n 0, 1, 0, 0, .null), (84, .getfield 21, 3, 7, 5, .null), (87, .iload 8, 2, 8, 0, .null), (89, .iaload, 1, 0, 0, .null), (90, .iconst 1, 1, 0, 0, .int 1), (91, .if_icmp .ne 7, 3, 0, 98, .null), (94, .iconst 1, 1, 0, 0, .int 1), (95, .goto 4, 3, 0, 99, .null), (98, .iconst 0, 1, 0, 0, .int 0), (99, .ireturn, 1, 0, 0, .null)]
theorem ok_Se_listens : cd_Se_listens.all (mm_k M_Se_listens) = true := by decide +kernel
abbrev M_Se_weigh : mm_M := (⟨"SchoolOnRaft$Search", "weigh", "(LSchoolOnRaft$Spring;)V"⟩, prog_9_method_7_code, 10, none)
def cd_Se_weigh : List mm_E := [(0, .iconst 0, 1, 0, 0, .int 0), (1, .istore_n 2, 1, 2, 0, .null), (2, .iconst 0, 1, 0, 0, .int 0), (3, .istore_n 3, 1, 3, 0, .null), (4, .iload_n 3, 1, 3, 0, .null), (5, .aload_n 1, 1, 1, 0, .null), (6, .getfield 49, 3, 9, 0, .null), (9, .getfield 64, 3, 0, 1, .null), (12, .if_icmp .ge 146, 3, 0, 158, .null), (15, .aload_n 0, 1, 0, 0, .null), (16, .getfield 18, 3, 7, 4, .null), (19, .bipush 36, 2, 0, 0, .int 36), (21, .iload_n 3, 1, 3, 0, .null), (22, .iadd, 1, 0, 0, .null), (23, .iaload, 1, 0, 0, .null), (24, .istore 4, 2, 4, 0, .null), (26, .iload 4, 2, 4, 0, .null), (28, .ifCond .ne 7, 3, 0, 35, .null), (31, .iconst 0, 1, 0, 0, .int 0), (32, .goto 10, 3, 0, 42, .null), (35, .aload_n 1, 1, 1, 0, .null), (36, .iload 4, 2, 4, 0, .null), (38, .iconst 5, 1, 0, 0, .int 5), (39, .invokevirtual 81, 3, 0, 0, .null), (42, .istore 5, 2, 5, 0, .null), (44, .iload 5, 2, 5, 0, .null), (46, .invokestatic 85, 3, 0, 0, .null), (49, .istore 6, 2, 6, 0, .null), (51, .iconst 0, 1, 0, 0, .int 0), (52, .istore 7, 2, 7, 0, .null), (54, .iload 7, 2, 7, 0, .null), (56, .aload_n 1, 1, 1, 0, .null), (57, .getfield 49, 3, 9, 0, .null), (60, .getfield 55, 3, 0, 0, .null), (63, .if_icmp .ge 89, 3, 0, 152, .null), (66, .iload 5, 2, 5, 0, .null), (68, .iload 7, 2, 7, 0, .null), (70, .ishr, 1, 0, 0, .null), (71, .iconst 1, 1, 0, 0, .int 1), (72, .iand, 1, 0, 0, .null), (73, .ifCond .ne 6, 3, 0, 79, .null), (76, .goto 70, 3, 0, 146, .null), (79, .iload 4, 2, 4, 0, .null), (81, .iload 7, 2, 7, 0, .null), (83, .invokestatic 91, 3, 0, 0, .null), (86, .istore 8, 2, 8, 0, .null), (88, .iload_n 3, 1, 3, 0, .null), (89, .iconst 4, 1, 0, 0, .int 4), (90, .imul, 1, 0, 0, .null), (91, .iload 7, 2, 7, 0, .null), (93, .iadd, 1, 0, 0, .null), (94, .iconst 5, 1, 0, 0, .int 5), (95, .imul, 1, 0, 0, .null), (96, .iload 6, 2, 6, 0, .null), (98, .iadd, 1, 0, 0, .null), (99, .bipush 7, 2, 0, 0, .int 7), (101, .imul, 1, 0, 0, .null), (102, .iload 8, 2, 8, 0, .null), (104, .iadd, 1, 0, 0, .null), (105, .istore 9, 2, 9, 0, .null), (107, .aload_n 0, 1, 0, 0, .null), (108, .getfield 24, 3, 7, 6, .null), (111, .iload 9, 2, 9, 0, .null), (113, .iaload, 1, 0, 0, .null), (114, .iconst (-1), 1, 0, 0, .int (-1)), (115, .if_icmp .ne 21, 3, 0, 136, .null), (118, .aload_n 0, 1, 0, 0, .null), (119, .getfield 24, 3, 7, 6, .null), (122, .iload 9, 2, 9, 0, .null), (124, .aload_n 1, 1, 1, 0, .null), (125, .iload_n 3, 1, 3, 0, .null), (126, .iload 7, 2, 7, 0, .null), (128, .iload 6, 2, 6, 0, .null), (130, .iload 8, 2, 8, 0, .null), (132, .invokevirtual 98, 3, 0, 0, .null), (135, .iastore, 1, 0, 0, .null), (136, .iload_n 2, 1, 2, 0, .null), (137, .aload_n 0, 1, 0, 0, .null), (138, .getfield 24, 3, 7, 6, .null), (141, .iload 9, 2, 9, 0, .null), (143, .iaload, 1, 0, 0, .null), (144, .iadd, 1, 0, 0, .null), (145, .istore_n 2, 1, 2, 0, .null), (146, .iinc 7 1, 3, 7, 0, .int 1), (149, .goto (-95), 3, 0, 54, .null), (152, .iinc 3 1, 3, 3, 0, .int 1), (155, .goto (-151), 3, 0, 4, .null), (158, .iload_n 2, 1, 2, 0, .null), (159, .aload_n 0, 1, 0, 0, .null), (160, .getfield 37, 3, 7, 1, .null), (163, .if_icmp .le 23, 3, 0, 186, .null), (166, .aload_n 0, 1, 0, 0, .null), (167, .iload_n 2, 1, 2, 0, .null), (168, .putfield 37, 3, 7, 1, .null), (171, .aload_n 0, 1, 0, 0, .null), (172, .getfield 15, 3, 7, 3, .null), (175, .iconst 0, 1, 0, 0, .int 0), (176, .aload_n 0, 1, 0, 0, .null), (177, .getfield 9, 3, 7, 0, .null), (180, .iconst 0, 1, 0, 0, .int 0), (181, .bipush 6, 2, 0, 0, .int 6), (183, .invokestatic 102, 3, 0, 0, .null), (186, .return_, 1, 0, 0, .null)]
theorem ok_Se_weigh : cd_Se_weigh.all (mm_k M_Se_weigh) = true := by decide +kernel
abbrev M_So_init : mm_M := (⟨"SchoolOnRaft$SongKind", "<init>", "()V"⟩, prog_10_method_1_code, 1, none)
def cd_So_init : List mm_E := [(0, .aload_n 0, 1, 0, 0, .null), (1, .invokespecial 1, 3, 0, 0, .null), (4, .return_, 1, 0, 0, .null)]
theorem ok_So_init : cd_So_init.all (mm_k M_So_init) = true := by decide +kernel
abbrev M_So_times : mm_M := (⟨"SchoolOnRaft$SongKind", "times", "(I)I"⟩, prog_10_method_2_code, 2, (some .int))
def cd_So_times : List mm_E := [(0, .aload_n 0, 1, 0, 0, .null), (1, .iload_n 1, 1, 1, 0, .null), (2, .invokespecial 7, 3, 0, 0, .null), (5, .iload_n 1, 1, 1, 0, .null), (6, .iconst 2, 1, 0, 0, .int 2), (7, .irem, 1, 0, 0, .null), (8, .iadd, 1, 0, 0, .null), (9, .ireturn, 1, 0, 0, .null)]
theorem ok_So_times : cd_So_times.all (mm_k M_So_times) = true := by decide +kernel
abbrev M_So_keeps : mm_M := (⟨"SchoolOnRaft$SongKind", "keeps", "(II)Z"⟩, prog_10_method_3_code, 3, (some .boolean))
def cd_So_keeps : List mm_E := [(0, .aload_n 0, 1, 0, 0, .null), (1, .iload_n 1, 1, 1, 0, .null), (2, .iload_n 2, 1, 2, 0, .null), (3, .invokespecial 11, 3, 0, 0, .null), (6, .ifCond .ne 9, 3, 0, 15, .null), (9, .iload_n 2, 1, 2, 0, .null), (10, .iconst 2, 1, 0, 0, .int 2), (11, .irem, 1, 0, 0, .null), (12, .ifCond .ne 7, 3, 0, 19, .null), (15, .iconst 1, 1, 0, 0, .int 1), (16, .goto 4, 3, 0, 20, .null), (19, .iconst 0, 1, 0, 0, .int 0), (20, .ireturn, 1, 0, 0, .null)]
theorem ok_So_keeps : cd_So_keeps.all (mm_k M_So_keeps) = true := by decide +kernel
abbrev M_So_value : mm_M := (⟨"SchoolOnRaft$SongKind", "value", "(I)I"⟩, prog_10_method_4_code, 2, (some .int))
def cd_So_value : List mm_E := [(0, .aload_n 0, 1, 0, 0, .null), (1, .iload_n 1, 1, 1, 0, .null), (2, .invokespecial 15, 3, 0, 0, .null), (5, .iconst 2, 1, 0, 0, .int 2), (6, .idiv, 1, 0, 0, .null), (7, .ireturn, 1, 0, 0, .null)]
theorem ok_So_value : cd_So_value.all (mm_k M_So_value) = true := by decide +kernel
abbrev M_Sp_init : mm_M := (⟨"SchoolOnRaft$Spring", "<init>", "()V"⟩, prog_11_method_1_code, 1, none)
def cd_Sp_init : List mm_E := [(0, .aload_n 0, 1, 0, 0, .null), (1, .invokespecial 5, 3, 0, 0, .null), (4, .aload_n 0, 1, 0, 0, .null), (5, .new 11, 3, 0, 0, .null), (8, .dup, 1, 0, 0, .null), (9, .invokespecial 13, 3, 0, 0, .null), (12, .putfield 14, 3, 9, 0, .null), (15, .aload_n 0, 1, 0, 0, .null), (16, .bipush 6, 2, 0, 0, .int 6), (18, .anewarray 18, 3, 0, 0, .null), (21, .putfield 20, 3, 9, 1, .null), (24, .aload_n 0, 1, 0, 0, .null), (25, .bipush 6, 2, 0, 0, .int 6), (27, .anewarray 24, 3, 0, 0, .null), (30, .putfield 26, 3, 9, 3, .null), (33, .aload_n 0, 1, 0, 0, .null), (34, .bipush 6, 2, 0, 0, .int 6), (36, .newarray .int, 2, 0, 0, .null), (38, .putfield 30, 3, 9, 4, .null), (41, .aload_n 0, 1, 0, 0, .null), (42, .sipush 160, 3, 0, 0, .int 160), (45, .newarray .int, 2, 0, 0, .null), (47, .putfield 34, 3, 9, 5, .null), (50, .aload_n 0, 1, 0, 0, .null), (51, .new 18, 3, 0, 0, .null), (54, .dup, 1, 0, 0, .null), (55, .iconst 1, 1, 0, 0, .int 1), (56, .newarray .int, 2, 0, 0, .null), (58, .dup, 1, 0, 0, .null), (59, .iconst 0, 1, 0, 0, .int 0), (60, .iconst 1, 1, 0, 0, .int 1), (61, .iastore, 1, 0, 0, .null), (62, .iconst 1, 1, 0, 0, .int 1), (63, .newarray .int, 2, 0, 0, .null), (65, .dup, 1, 0, 0, .null), (66, .iconst 0, 1, 0, 0, .int 0), (67, .iconst 0, 1, 0, 0, .int 0), (68, .iastore, 1, 0, 0, .null), (69, .iconst 1, 1, 0, 0, .int 1), (70, .newarray .int, 2, 0, 0, .null), (72, .dup, 1, 0, 0, .null), (73, .iconst 0, 1, 0, 0, .int 0), (74, .iconst 1, 1, 0, 0, .int 1), (75, .iastore, 1, 0, 0, .null), (76, .invokespecial 37, 3, 0, 0, .null), (79, .putfield 40, 3, 9, 6, .null), (82, .aload_n 0, 1, 0, 0, .null), (83, .getfield 26, 3, 9, 3, .null), (86, .iconst 0, 1, 0, 0, .int 0), (87, .new 24, 3, 0, 0, .null), (90, .dup, 1, 0, 0, .null), (91, .invokespecial 44, 3, 0, 0, .null), (94, .aastore, 1, 0, 0, .null), (95, .aload_n 0, 1, 0, 0, .null), (96, .getfield 26, 3, 9, 3, .null), (99, .iconst 1, 1, 0, 0, .int 1), (100, .new 45, 3, 0, 0, .null), (103, .dup, 1, 0, 0, .null), (104, .invokespecial 47, 3, 0, 0, .null), (107, .aastore, 1, 0, 0, .null), (108, .aload_n 0, 1, 0, 0, .null), (109, .getfield 26, 3, 9, 3, .null), (112, .iconst 2, 1, 0, 0, .int 2), (113, .new 48, 3, 0, 0, .null), (116, .dup, 1, 0, 0, .null), (117, .invokespecial 50, 3, 0, 0, .null), (120, .aastore, 1, 0, 0, .null), (121, .aload_n 0, 1, 0, 0, .null), (122, .getfield 26, 3, 9, 3, .null), (125, .iconst 3, 1, 0, 0, .int 3), (126, .new 51, 3, 0, 0, .null), (129, .dup, 1, 0, 0, .null), (130, .invokespecial 53, 3, 0, 0, .null), (133, .aastore, 1, 0, 0, .null), (134, .aload_n 0, 1, 0, 0, .null), (135, .getfield 26, 3, 9, 3, .null), (138, .iconst 4, 1, 0, 0, .int 4), (139, .new 54, 3, 0, 0, .null), (142, .dup, 1, 0, 0, .null), (143, .invokespecial 56, 3, 0, 0, .null), (146, .aastore, 1, 0, 0, .null), (147, .aload_n 0, 1, 0, 0, .null), (148, .getfield 26, 3, 9, 3, .null), (151, .iconst 5, 1, 0, 0, .int 5), (152, .new 57, 3, 0, 0, .null), (155, .dup, 1, 0, 0, .null), (156, .invokespecial 59, 3, 0, 0, .null), (159, .aastore, 1, 0, 0, .null), (160, .aload_n 0, 1, 0, 0, .null), (161, .getfield 20, 3, 9, 1, .null), (164, .iconst 0, 1, 0, 0, .int 0), (165, .aload_n 0, 1, 0, 0, .null), (166, .getfield 40, 3, 9, 6, .null), (169, .aastore, 1, 0, 0, .null), (170, .aload_n 0, 1, 0, 0, .null), (171, .iconst 1, 1, 0, 0, .int 1), (172, .putfield 60, 3, 9, 2, .null), (175, .return_, 1, 0, 0, .null)]
theorem ok_Sp_init : cd_Sp_init.all (mm_k M_Sp_init) = true := by decide +kernel
abbrev M_Sp_timesHeard : mm_M := (⟨"SchoolOnRaft$Spring", "timesHeard", "(II)I"⟩, prog_11_method_2_code, 2, (some .int))
def cd_Sp_timesHeard : List mm_E := [(0, .iload_n 0, 1, 0, 0, .null), (1, .iconst 3, 1, 0, 0, .int 3), (2, .iload_n 1, 1, 1, 0, .null), (3, .imul, 1, 0, 0, .null), (4, .ishr, 1, 0, 0, .null), (5, .bipush 7, 2, 0, 0, .int 7), (7, .iand, 1, 0, 0, .null), (8, .ireturn, 1, 0, 0, .null)]
theorem ok_Sp_timesHeard : cd_Sp_timesHeard.all (mm_k M_Sp_timesHeard) = true := by decide +kernel
abbrev M_Sp_lastUnderstood : mm_M := (⟨"SchoolOnRaft$Spring", "lastUnderstood", "(II)I"⟩, prog_11_method_3_code, 2, (some .int))
def cd_Sp_lastUnderstood : List mm_E := [(0, .iload_n 0, 1, 0, 0, .null), (1, .bipush 12, 2, 0, 0, .int 12), (3, .iconst 3, 1, 0, 0, .int 3), (4, .iload_n 1, 1, 1, 0, .null), (5, .imul, 1, 0, 0, .null), (6, .iadd, 1, 0, 0, .null), (7, .ishr, 1, 0, 0, .null), (8, .bipush 7, 2, 0, 0, .int 7), (10, .iand, 1, 0, 0, .null), (11, .iconst 1, 1, 0, 0, .int 1), (12, .isub, 1, 0, 0, .null), (13, .ireturn, 1, 0, 0, .null)]
theorem ok_Sp_lastUnderstood : cd_Sp_lastUnderstood.all (mm_k M_Sp_lastUnderstood) = true := by decide +kernel
abbrev M_Sp_kindOf : mm_M := (⟨"SchoolOnRaft$Spring", "kindOf", "(I)LSchoolOnRaft$Kind;"⟩, prog_11_method_4_code, 2, (some (.object "SchoolOnRaft$Kind")))
def cd_Sp_kindOf : List mm_E := [(0, .aload_n 0, 1, 0, 0, .null), (1, .getfield 26, 3, 9, 3, .null), (4, .aload_n 0, 1, 0, 0, .null), (5, .getfield 14, 3, 9, 0, .null), (8, .getfield 64, 3, 0, 3, .null), (11, .iload_n 1, 1, 1, 0, .null), (12, .iaload, 1, 0, 0, .null), (13, .aaload, 1, 0, 0, .null), (14, .areturn, 1, 0, 0, .null)]
theorem ok_Sp_kindOf : cd_Sp_kindOf.all (mm_k M_Sp_kindOf) = true := by decide +kernel
abbrev M_Sp_owned : mm_M := (⟨"SchoolOnRaft$Spring", "owned", "(II)I"⟩, prog_11_method_5_code, 6, (some .int))
def cd_Sp_owned : List mm_E := [(0, .iconst 0, 1, 0, 0, .int 0), (1, .istore_n 3, 1, 3, 0, .null), (2, .iconst 0, 1, 0, 0, .int 0), (3, .istore 4, 2, 4, 0, .null), (5, .iload 4, 2, 4, 0, .null), (7, .aload_n 0, 1, 0, 0, .null), (8, .getfield 14, 3, 9, 0, .null), (11, .getfield 66, 3, 0, 0, .null), (14, .if_icmp .ge 55, 3, 0, 69, .null), (17, .iload_n 1, 1, 1, 0, .null), (18, .iload 4, 2, 4, 0, .null), (20, .invokestatic 69, 3, 0, 0, .null), (23, .istore 5, 2, 5, 0, .null), (25, .iload 5, 2, 5, 0, .null), (27, .ifCond .lt 36, 3, 0, 63, .null), (30, .aload_n 0, 1, 0, 0, .null), (31, .iload 4, 2, 4, 0, .null), (33, .invokevirtual 73, 3, 0, 0, .null), (36, .aload_n 0, 1, 0, 0, .null), (37, .getfield 14, 3, 9, 0, .null), (40, .getfield 77, 3, 0, 4, .null), (43, .iload 4, 2, 4, 0, .null), (45, .iaload, 1, 0, 0, .null), (46, .iload_n 2, 1, 2, 0, .null), (47, .iload 5, 2, 5, 0, .null), (49, .isub, 1, 0, 0, .null), (50, .invokevirtual 80, 3, 0, 0, .null), (53, .ifCond .eq 10, 3, 0, 63, .null), (56, .iload_n 3, 1, 3, 0, .null), (57, .iconst 1, 1, 0, 0, .int 1), (58, .iload 4, 2, 4, 0, .null), (60, .ishl, 1, 0, 0, .null), (61, .ior, 1, 0, 0, .null), (62, .istore_n 3, 1, 3, 0, .null), (63, .iinc 4 1, 3, 4, 0, .int 1), (66, .goto (-61), 3, 0, 5, .null), (69, .iload_n 3, 1, 3, 0, .null), (70, .ireturn, 1, 0, 0, .null)]
theorem ok_Sp_owned : cd_Sp_owned.all (mm_k M_Sp_owned) = true := by decide +kernel
abbrev M_Sp_hears : mm_M := (⟨"SchoolOnRaft$Spring", "hears", "(IIIII)Z"⟩, prog_11_method_6_code, 6, (some .boolean))
def cd_Sp_hears : List mm_E := [(0, .aload_n 0, 1, 0, 0, .null), (1, .iload_n 1, 1, 1, 0, .null), (2, .iload_n 2, 1, 2, 0, .null), (3, .iload_n 3, 1, 3, 0, .null), (4, .iload 4, 2, 4, 0, .null), (6, .iload 5, 2, 5, 0, .null), (8, .invokevirtual 84, 3, 0, 0, .null), (11, .aload_n 0, 1, 0, 0, .null), (12, .aload_n 0, 1, 0, 0, .null), (13, .invokevirtual 88, 3, 0, 0, .null), (16, .getfield 92, 3, 10, 0, .null), (19, .invokevirtual 95, 3, 0, 0, .null), (22, .ifCond .eq 7, 3, 0, 29, .null), (25, .iconst 1, 1, 0, 0, .int 1), (26, .goto 4, 3, 0, 30, .null), (29, .iconst 0, 1, 0, 0, .int 0), (30, .ireturn, 1, 0, 0, .null)]
theorem ok_Sp_hears : cd_Sp_hears.all (mm_k M_Sp_hears) = true := by decide +kernel
abbrev M_Sp_gain : mm_M := (⟨"SchoolOnRaft$Spring", "gain", "(IIII)I"⟩, prog_11_method_7_code, 6, (some .int))
def cd_Sp_gain : List mm_E := [(0, .aload_n 0, 1, 0, 0, .null), (1, .iload_n 1, 1, 1, 0, .null), (2, .iconst 5, 1, 0, 0, .int 5), (3, .iload_n 2, 1, 2, 0, .null), (4, .iload_n 3, 1, 3, 0, .null), (5, .iload 4, 2, 4, 0, .null), (7, .invokevirtual 84, 3, 0, 0, .null), (10, .bipush (-99), 2, 0, 0, .int (-99)), (12, .bipush 99, 2, 0, 0, .int 99), (14, .aload_n 0, 1, 0, 0, .null), (15, .aload_n 0, 1, 0, 0, .null), (16, .invokevirtual 88, 3, 0, 0, .null), (19, .getfield 99, 3, 10, 1, .null), (22, .invokevirtual 95, 3, 0, 0, .null), (25, .invokestatic 102, 3, 0, 0, .null), (28, .invokestatic 107, 3, 0, 0, .null), (31, .istore 5, 2, 5, 0, .null), (33, .iconst 0, 1, 0, 0, .int 0), (34, .aload_n 0, 1, 0, 0, .null), (35, .iload_n 2, 1, 2, 0, .null), (36, .invokevirtual 73, 3, 0, 0, .null), (39, .aload_n 0, 1, 0, 0, .null), (40, .getfield 14, 3, 9, 0, .null), (43, .getfield 77, 3, 0, 4, .null), (46, .iload_n 2, 1, 2, 0, .null), (47, .iaload, 1, 0, 0, .null), (48, .invokevirtual 110, 3, 0, 0, .null), (51, .iload 5, 2, 5, 0, .null), (53, .iadd, 1, 0, 0, .null), (54, .invokestatic 107, 3, 0, 0, .null), (57, .ireturn, 1, 0, 0, .null)]
theorem ok_Sp_gain : cd_Sp_gain.all (mm_k M_Sp_gain) = true := by decide +kernel
abbrev M_Sp_runCost : mm_M := (⟨"SchoolOnRaft$Spring", "runCost", "(II)I"⟩, prog_11_method_8_code, 3, (some .int))
def cd_Sp_runCost : List mm_E := [(0, .aload_n 0, 1, 0, 0, .null), (1, .iload_n 1, 1, 1, 0, .null), (2, .iload_n 2, 1, 2, 0, .null), (3, .iconst 0, 1, 0, 0, .int 0), (4, .iconst 0, 1, 0, 0, .int 0), (5, .iconst 0, 1, 0, 0, .int 0), (6, .invokevirtual 84, 3, 0, 0, .null), (9, .iconst 0, 1, 0, 0, .int 0), (10, .bipush 99, 2, 0, 0, .int 99), (12, .aload_n 0, 1, 0, 0, .null), (13, .aload_n 0, 1, 0, 0, .null), (14, .invokevirtual 88, 3, 0, 0, .null), (17, .getfield 114, 3, 10, 2, .null), (20, .invokevirtual 95, 3, 0, 0, .null), (23, .invokestatic 102, 3, 0, 0, .null), (26, .invokestatic 107, 3, 0, 0, .null), (29, .ireturn, 1, 0, 0, .null)]
theorem ok_Sp_runCost : cd_Sp_runCost.all (mm_k M_Sp_runCost) = true := by decide +kernel
abbrev M_Sp_listened : mm_M := (⟨"SchoolOnRaft$Spring", "listened", "(III)I"⟩, prog_11_method_9_code, 9, (some .int))
def cd_Sp_listened : List mm_E := [(0, .iload_n 1, 1, 1, 0, .null), (1, .iconst 1, 1, 0, 0, .int 1), (2, .iconst 3, 1, 0, 0, .int 3), (3, .iload_n 3, 1, 3, 0, .null), (4, .imul, 1, 0, 0, .null), (5, .ishl, 1, 0, 0, .null), (6, .iadd, 1, 0, 0, .null), (7, .istore 4, 2, 4, 0, .null), (9, .aload_n 0, 1, 0, 0, .null), (10, .iload 4, 2, 4, 0, .null), (12, .iload_n 2, 1, 2, 0, .null), (13, .invokevirtual 117, 3, 0, 0, .null), (16, .istore 5, 2, 5, 0, .null), (18, .aload_n 0, 1, 0, 0, .null), (19, .getfield 14, 3, 9, 0, .null), (22, .getfield 120, 3, 0, 5, .null), (25, .iload_n 3, 1, 3, 0, .null), (26, .iaload, 1, 0, 0, .null), (27, .istore 6, 2, 6, 0, .null), (29, .iload 4, 2, 4, 0, .null), (31, .iload_n 3, 1, 3, 0, .null), (32, .invokestatic 123, 3, 0, 0, .null), (35, .aload_n 0, 1, 0, 0, .null), (36, .iload_n 3, 1, 3, 0, .null), (37, .invokevirtual 73, 3, 0, 0, .null), (40, .aload_n 0, 1, 0, 0, .null), (41, .getfield 14, 3, 9, 0, .null), (44, .getfield 77, 3, 0, 4, .null), (47, .iload_n 3, 1, 3, 0, .null), (48, .iaload, 1, 0, 0, .null), (49, .invokevirtual 126, 3, 0, 0, .null), (52, .if_icmp .lt 7, 3, 0, 59, .null), (55, .iconst 1, 1, 0, 0, .int 1), (56, .goto 4, 3, 0, 60, .null), (59, .iconst 0, 1, 0, 0, .int 0), (60, .istore 7, 2, 7, 0, .null), (62, .iload 7, 2, 7, 0, .null), (64, .ifCond .eq 22, 3, 0, 86, .null), (67, .iload 5, 2, 5, 0, .null), (69, .iload 6, 2, 6, 0, .null), (71, .iand, 1, 0, 0, .null), (72, .iload 6, 2, 6, 0, .null), (74, .if_icmp .ne 12, 3, 0, 86, .null), (77, .iload 5, 2, 5, 0, .null), (79, .iload_n 3, 1, 3, 0, .null), (80, .ishr, 1, 0, 0, .null), (81, .iconst 1, 1, 0, 0, .int 1), (82, .iand, 1, 0, 0, .null), (83, .ifCond .eq 6, 3, 0, 89, .null), (86, .iload 4, 2, 4, 0, .null), (88, .ireturn, 1, 0, 0, .null), (89, .bipush 12, 2, 0, 0, .int 12), (91, .iconst 3, 1, 0, 0, .int 3), (92, .iload_n 3, 1, 3, 0, .null), (93, .imul, 1, 0, 0, .null), (94, .iadd, 1, 0, 0, .null), (95, .istore 8, 2, 8, 0, .null), (97, .iload 4, 2, 4, 0, .null), (99, .bipush 7, 2, 0, 0, .int 7), (101, .iload 8, 2, 8, 0, .null), (103, .ishl, 1, 0, 0, .null), (104, .iconst (-1), 1, 0, 0, .int (-1)), (105, .ixor, 1, 0, 0, .null), (106, .iand, 1, 0, 0, .null), (107, .iload_n 2, 1, 2, 0, .null), (108, .iconst 1, 1, 0, 0, .int 1), (109, .iadd, 1, 0, 0, .null), (110, .iload 8, 2, 8, 0, .null), (112, .ishl, 1, 0, 0, .null), (113, .ior, 1, 0, 0, .null), (114, .ireturn, 1, 0, 0, .null)]
theorem ok_Sp_listened : cd_Sp_listened.all (mm_k M_Sp_listened) = true := by decide +kernel
abbrev M_Sp_memoryOf : mm_M := (⟨"SchoolOnRaft$Spring", "memoryOf", "(III[I)I"⟩, prog_11_method_10_code, 9, (some .int))
def cd_Sp_memoryOf : List mm_E := [(0, .iconst 0, 1, 0, 0, .int 0), (1, .istore 5, 2, 5, 0, .null), (3, .iload_n 2, 1, 2, 0, .null), (4, .istore 6, 2, 6, 0, .null), (6, .iload 6, 2, 6, 0, .null), (8, .iload_n 3, 1, 3, 0, .null), (9, .if_icmp .gt 71, 3, 0, 80, .null), (12, .aload 4, 2, 4, 0, .null), (14, .iload 6, 2, 6, 0, .null), (16, .iaload, 1, 0, 0, .null), (17, .istore 7, 2, 7, 0, .null), (19, .iload 7, 2, 7, 0, .null), (21, .iconst (-1), 1, 0, 0, .int (-1)), (22, .if_icmp .ne 6, 3, 0, 28, .null), (25, .goto 49, 3, 0, 74, .null), (28, .aload_n 0, 1, 0, 0, .null), (29, .iload 5, 2, 5, 0, .null), (31, .iload 6, 2, 6, 0, .null), (33, .invokevirtual 117, 3, 0, 0, .null), (36, .invokestatic 129, 3, 0, 0, .null), (39, .istore 8, 2, 8, 0, .null), (41, .aload_n 0, 1, 0, 0, .null), (42, .iload_n 1, 1, 1, 0, .null), (43, .iload 6, 2, 6, 0, .null), (45, .iload 7, 2, 7, 0, .null), (47, .iload 8, 2, 8, 0, .null), (49, .iload 5, 2, 5, 0, .null), (51, .iload 7, 2, 7, 0, .null), (53, .invokestatic 123, 3, 0, 0, .null), (56, .invokevirtual 134, 3, 0, 0, .null), (59, .ifCond .eq 15, 3, 0, 74, .null), (62, .aload_n 0, 1, 0, 0, .null), (63, .iload 5, 2, 5, 0, .null), (65, .iload 6, 2, 6, 0, .null), (67, .iload 7, 2, 7, 0, .null), (69, .invokevirtual 137, 3, 0, 0, .null), (72, .istore 5, 2, 5, 0, .null), (74, .iinc 6 1, 3, 6, 0, .int 1), (77, .goto (-71), 3, 0, 6, .null), (80, .iload 5, 2, 5, 0, .null), (82, .ireturn, 1, 0, 0, .null)]
theorem ok_Sp_memoryOf : cd_Sp_memoryOf.all (mm_k M_Sp_memoryOf) = true := by decide +kernel
abbrev M_Sp_ownedBehind : mm_M := (⟨"SchoolOnRaft$Spring", "ownedBehind", "(IIII)I"⟩, prog_11_method_11_code, 5, (some .int))
def cd_Sp_ownedBehind : List mm_E := [(0, .aload_n 0, 1, 0, 0, .null), (1, .aload_n 0, 1, 0, 0, .null), (2, .iload_n 2, 1, 2, 0, .null), (3, .iload_n 3, 1, 3, 0, .null), (4, .iload 4, 2, 4, 0, .null), (6, .iload_n 1, 1, 1, 0, .null), (7, .invokestatic 102, 3, 0, 0, .null), (10, .aload_n 0, 1, 0, 0, .null), (11, .getfield 14, 3, 9, 0, .null), (14, .getfield 141, 3, 0, 9, .null), (17, .invokevirtual 144, 3, 0, 0, .null), (20, .iload_n 1, 1, 1, 0, .null), (21, .invokevirtual 117, 3, 0, 0, .null), (24, .ireturn, 1, 0, 0, .null)]
theorem ok_Sp_ownedBehind : cd_Sp_ownedBehind.all (mm_k M_Sp_ownedBehind) = true := by decide +kernel
abbrev M_Sp_pointsOf : mm_M := (⟨"SchoolOnRaft$Spring", "pointsOf", "(I[I)I"⟩, prog_11_method_12_code, 7, (some .int))
def cd_Sp_pointsOf : List mm_E := [(0, .aload_n 0, 1, 0, 0, .null), (1, .iload_n 1, 1, 1, 0, .null), (2, .aload_n 0, 1, 0, 0, .null), (3, .getfield 14, 3, 9, 0, .null), (6, .getfield 148, 3, 0, 6, .null), (9, .iload_n 1, 1, 1, 0, .null), (10, .iaload, 1, 0, 0, .null), (11, .aload_n 0, 1, 0, 0, .null), (12, .getfield 14, 3, 9, 0, .null), (15, .getfield 151, 3, 0, 7, .null), (18, .iload_n 1, 1, 1, 0, .null), (19, .iaload, 1, 0, 0, .null), (20, .aload_n 2, 1, 2, 0, .null), (21, .invokevirtual 144, 3, 0, 0, .null), (24, .istore_n 3, 1, 3, 0, .null), (25, .aload_n 0, 1, 0, 0, .null), (26, .iload_n 3, 1, 3, 0, .null), (27, .iconst 5, 1, 0, 0, .int 5), (28, .invokevirtual 117, 3, 0, 0, .null), (31, .istore 4, 2, 4, 0, .null), (33, .iconst 0, 1, 0, 0, .int 0), (34, .istore 5, 2, 5, 0, .null), (36, .iconst 0, 1, 0, 0, .int 0), (37, .istore 6, 2, 6, 0, .null), (39, .iload 6, 2, 6, 0, .null), (41, .aload_n 0, 1, 0, 0, .null), (42, .getfield 14, 3, 9, 0, .null), (45, .getfield 66, 3, 0, 0, .null), (48, .if_icmp .ge 42, 3, 0, 90, .null), (51, .iload 4, 2, 4, 0, .null), (53, .iload 6, 2, 6, 0, .null), (55, .ishr, 1, 0, 0, .null), (56, .iconst 1, 1, 0, 0, .int 1), (57, .iand, 1, 0, 0, .null), (58, .ifCond .eq 26, 3, 0, 84, .null), (61, .iload 5, 2, 5, 0, .null), (63, .aload_n 0, 1, 0, 0, .null), (64, .iload_n 1, 1, 1, 0, .null), (65, .iload 6, 2, 6, 0, .null), (67, .iload 4, 2, 4, 0, .null), (69, .invokestatic 129, 3, 0, 0, .null), (72, .iload_n 3, 1, 3, 0, .null), (73, .iload 6, 2, 6, 0, .null), (75, .invokestatic 123, 3, 0, 0, .null), (78, .invokevirtual 154, 3, 0, 0, .null), (81, .iadd, 1, 0, 0, .null), (82, .istore 5, 2, 5, 0, .null), (84, .iinc 6 1, 3, 6, 0, .int 1), (87, .goto (-48), 3, 0, 39, .null), (90, .iload 5, 2, 5, 0, .null), (92, .ireturn, 1, 0, 0, .null)]
theorem ok_Sp_pointsOf : cd_Sp_pointsOf.all (mm_k M_Sp_pointsOf) = true := by decide +kernel
abbrev M_Sp_firstUnlike : mm_M := (⟨"SchoolOnRaft$Spring", "firstUnlike", "([IIII)I"⟩, prog_11_method_13_code, 6, (some .int))
def cd_Sp_firstUnlike : List mm_E := [(0, .iconst 0, 1, 0, 0, .int 0), (1, .istore 5, 2, 5, 0, .null), (3, .iload 5, 2, 5, 0, .null), (5, .bipush 6, 2, 0, 0, .int 6), (7, .if_icmp .ge 29, 3, 0, 36, .null), (10, .aload_n 0, 1, 0, 0, .null), (11, .iload 5, 2, 5, 0, .null), (13, .iload_n 2, 1, 2, 0, .null), (14, .iload_n 3, 1, 3, 0, .null), (15, .iload 4, 2, 4, 0, .null), (17, .invokevirtual 158, 3, 0, 0, .null), (20, .aload_n 1, 1, 1, 0, .null), (21, .iload 5, 2, 5, 0, .null), (23, .iaload, 1, 0, 0, .null), (24, .if_icmp .eq 6, 3, 0, 30, .null), (27, .iload 5, 2, 5, 0, .null), (29, .ireturn, 1, 0, 0, .null), (30, .iinc 5 1, 3, 5, 0, .int 1), (33, .goto (-30), 3, 0, 3, .null), (36, .iconst (-1), 1, 0, 0, .int (-1)), (37, .ireturn, 1, 0, 0, .null)]
theorem ok_Sp_firstUnlike : cd_Sp_firstUnlike.all (mm_k M_Sp_firstUnlike) = true := by decide +kernel
abbrev M_Sp_ruleText : mm_M := (⟨"SchoolOnRaft$Spring", "ruleText", "()LSchoolOnRaft$Text;"⟩, prog_11_method_14_code, 2, (some (.object "SchoolOnRaft$Text")))
def cd_Sp_ruleText : List mm_E := [(0, .aload_n 0, 1, 0, 0, .null), (1, .getfield 20, 3, 9, 1, .null), (4, .aload_n 0, 1, 0, 0, .null), (5, .getfield 14, 3, 9, 0, .null), (8, .getfield 161, 3, 0, 2, .null), (11, .aaload, 1, 0, 0, .null), (12, .astore_n 1, 1, 1, 0, .null), (13, .aload_n 1, 1, 1, 0, .null), (14, .ifnonnull 10, 3, 0, 24, .null), (17, .aload_n 0, 1, 0, 0, .null), (18, .getfield 40, 3, 9, 6, .null), (21, .goto 4, 3, 0, 25, .null), (24, .aload_n 1, 1, 1, 0, .null), (25, .areturn, 1, 0, 0, .null)]
theorem ok_Sp_ruleText : cd_Sp_ruleText.all (mm_k M_Sp_ruleText) = true := by decide +kernel
abbrev M_Sp_stage : mm_M := (⟨"SchoolOnRaft$Spring", "stage", "(IIIII)V"⟩, prog_11_method_15_code, 6, none)
def cd_Sp_stage : List mm_E := [(0, .aload_n 0, 1, 0, 0, .null), (1, .getfield 30, 3, 9, 4, .null), (4, .iconst 0, 1, 0, 0, .int 0), (5, .iload_n 2, 1, 2, 0, .null), (6, .iastore, 1, 0, 0, .null), (7, .aload_n 0, 1, 0, 0, .null), (8, .getfield 30, 3, 9, 4, .null), (11, .iconst 1, 1, 0, 0, .int 1), (12, .iload_n 1, 1, 1, 0, .null), (13, .iastore, 1, 0, 0, .null), (14, .aload_n 0, 1, 0, 0, .null), (15, .getfield 30, 3, 9, 4, .null), (18, .iconst 2, 1, 0, 0, .int 2), (19, .iload_n 3, 1, 3, 0, .null), (20, .iastore, 1, 0, 0, .null), (21, .aload_n 0, 1, 0, 0, .null), (22, .getfield 30, 3, 9, 4, .null), (25, .iconst 3, 1, 0, 0, .int 3), (26, .iload 4, 2, 4, 0, .null), (28, .iastore, 1, 0, 0, .null), (29, .aload_n 0, 1, 0, 0, .null), (30, .getfield 30, 3, 9, 4, .null), (33, .iconst 4, 1, 0, 0, .int 4), (34, .aload_n 0, 1, 0, 0, .null), (35, .getfield 14, 3, 9, 0, .null), (38, .getfield 164, 3, 0, 8, .null), (41, .iload_n 1, 1, 1, 0, .null), (42, .iaload, 1, 0, 0, .null), (43, .iastore, 1, 0, 0, .null), (44, .aload_n 0, 1, 0, 0, .null), (45, .getfield 30, 3, 9, 4, .null), (48, .iconst 5, 1, 0, 0, .int 5), (49, .iload 5, 2, 5, 0, .null), (51, .iastore, 1, 0, 0, .null), (52, .return_, 1, 0, 0, .null)]
theorem ok_Sp_stage : cd_Sp_stage.all (mm_k M_Sp_stage) = true := by decide +kernel
abbrev M_Sp_worked : mm_M := (⟨"SchoolOnRaft$Spring", "worked", "([I)I"⟩, prog_11_method_16_code, 5, (some .int))
def cd_Sp_worked : List mm_E := [(0, .iconst 0, 1, 0, 0, .int 0), (1, .istore_n 2, 1, 2, 0, .null), (2, .iconst 0, 1, 0, 0, .int 0), (3, .istore_n 3, 1, 3, 0, .null), (4, .iload_n 3, 1, 3, 0, .null), (5, .aload_n 1, 1, 1, 0, .null), (6, .arraylength, 1, 0, 0, .null), (7, .if_icmp .ge 165, 3, 0, 172, .null), (10, .iload_n 2, 1, 2, 0, .null), (11, .aload_n 0, 1, 0, 0, .null), (12, .getfield 34, 3, 9, 5, .null), (15, .arraylength, 1, 0, 0, .null), (16, .if_icmp .ge 156, 3, 0, 172, .null), (19, .aload_n 1, 1, 1, 0, .null), (20, .iload_n 3, 1, 3, 0, .null), (21, .iaload, 1, 0, 0, .null), (22, .istore 4, 2, 4, 0, .null), (24, .iload 4, 2, 4, 0, .null), (26, .bipush (-6), 2, 0, 0, .int (-6)), (28, .if_icmp .lt 34, 3, 0, 62, .null), (31, .aload_n 0, 1, 0, 0, .null), (32, .getfield 34, 3, 9, 5, .null), (35, .iload_n 2, 1, 2, 0, .null), (36, .iload 4, 2, 4, 0, .null), (38, .ifCond .lt 8, 3, 0, 46, .null), (41, .iload 4, 2, 4, 0, .null), (43, .goto 12, 3, 0, 55, .null), (46, .aload_n 0, 1, 0, 0, .null), (47, .getfield 30, 3, 9, 4, .null), (50, .iconst (-1), 1, 0, 0, .int (-1)), (51, .iload 4, 2, 4, 0, .null), (53, .isub, 1, 0, 0, .null), (54, .iaload, 1, 0, 0, .null), (55, .iastore, 1, 0, 0, .null), (56, .iinc 2 1, 3, 2, 0, .int 1), (59, .goto 107, 3, 0, 166, .null), (62, .iload 4, 2, 4, 0, .null), (64, .bipush (-9), 2, 0, 0, .int (-9)), (66, .if_icmp .ne 34, 3, 0, 100, .null), (69, .iload_n 2, 1, 2, 0, .null), (70, .ifCond .le 30, 3, 0, 100, .null), (73, .aload_n 0, 1, 0, 0, .null), (74, .getfield 34, 3, 9, 5, .null), (77, .iload_n 2, 1, 2, 0, .null), (78, .iconst 1, 1, 0, 0, .int 1), (79, .isub, 1, 0, 0, .null), (80, .aload_n 0, 1, 0, 0, .null), (81, .getfield 34, 3, 9, 5, .null), (84, .iload_n 2, 1, 2, 0, .null), (85, .iconst 1, 1, 0, 0, .int 1), (86, .isub, 1, 0, 0, .null), (87, .iaload, 1, 0, 0, .null), (88, .ifCond .ne 7, 3, 0, 95, .null), (91, .iconst 1, 1, 0, 0, .int 1), (92, .goto 4, 3, 0, 96, .null), (95, .iconst 0, 1, 0, 0, .int 0), (96, .iastore, 1, 0, 0, .null), (97, .goto 69, 3, 0, 166, .null), (100, .iload 4, 2, 4, 0, .null), (102, .bipush (-15), 2, 0, 0, .int (-15)), (104, .if_icmp .ne 27, 3, 0, 131, .null), (107, .iload_n 2, 1, 2, 0, .null), (108, .ifCond .le 23, 3, 0, 131, .null), (111, .aload_n 0, 1, 0, 0, .null), (112, .getfield 34, 3, 9, 5, .null), (115, .iload_n 2, 1, 2, 0, .null), (116, .iconst 1, 1, 0, 0, .int 1), (117, .isub, 1, 0, 0, .null), (118, .aload_n 0, 1, 0, 0, .null), (119, .getfield 34, 3, 9, 5, .null), (122, .iload_n 2, 1, 2, 0, .null), (123, .iconst 1, 1, 0, 0, .int 1), (124, .isub, 1, 0, 0, .null), (125, .iaload, 1, 0, 0, .null), (126, .ineg, 1, 0, 0, .null), (127, .iastore, 1, 0, 0, .null), (128, .goto 38, 3, 0, 166, .null), (131, .iload_n 2, 1, 2, 0, .null), (132, .iconst 1, 1, 0, 0, .int 1), (133, .if_icmp .le 33, 3, 0, 166, .null), (136, .iinc 2 (-1), 3, 2, 0, .int (-1)), (139, .aload_n 0, 1, 0, 0, .null), (140, .getfield 34, 3, 9, 5, .null), (143, .iload_n 2, 1, 2, 0, .null), (144, .iconst 1, 1, 0, 0, .int 1), (145, .isub, 1, 0, 0, .null), (146, .iload 4, 2, 4, 0, .null), (148, .aload_n 0, 1, 0, 0, .null), (149, .getfield 34, 3, 9, 5, .null), (152, .iload_n 2, 1, 2, 0, .null), (153, .iconst 1, 1, 0, 0, .int 1), (154, .isub, 1, 0, 0, .null), (155, .iaload, 1, 0, 0, .null), (156, .aload_n 0, 1, 0, 0, .null), (157, .getfield 34, 3, 9, 5, .null), (160, .iload_n 2, 1, 2, 0, .null), (161, .iaload, 1, 0, 0, .null), (162, .invokestatic 167, 3, 0, 0, .null), (165, .iastore, 1, 0, 0, .null), (166, .iinc 3 1, 3, 3, 0, .int 1), (169, .goto (-165), 3, 0, 4, .null), (172, .iload_n 2, 1, 2, 0, .null), (173, .ifCond .le 14, 3, 0, 187, .null), (176, .aload_n 0, 1, 0, 0, .null), (177, .getfield 34, 3, 9, 5, .null), (180, .iload_n 2, 1, 2, 0, .null), (181, .iconst 1, 1, 0, 0, .int 1), (182, .isub, 1, 0, 0, .null), (183, .iaload, 1, 0, 0, .null), (184, .goto 4, 3, 0, 188, .null), (187, .iconst 0, 1, 0, 0, .int 0), (188, .ireturn, 1, 0, 0, .null)]
theorem ok_Sp_worked : cd_Sp_worked.all (mm_k M_Sp_worked) = true := by decide +kernel
abbrev M_Sp_joined : mm_M := (⟨"SchoolOnRaft$Spring", "joined", "(III)I"⟩, prog_11_method_17_code, 3, (some .int))
def cd_Sp_joined : List mm_E := [(0, .iload_n 0, 1, 0, 0, .null), (1, .tableswitch 101 (-13) (-7) #[97, 93, 82, 71, 101, 57, 43], 43, 0, 0, .null), (44, .iload_n 1, 1, 1, 0, .null), (45, .ifCond .ne 7, 3, 0, 52, .null), (48, .iload_n 2, 1, 2, 0, .null), (49, .ifCond .eq 7, 3, 0, 56, .null), (52, .iconst 1, 1, 0, 0, .int 1), (53, .goto 4, 3, 0, 57, .null), (56, .iconst 0, 1, 0, 0, .int 0), (57, .ireturn, 1, 0, 0, .null), (58, .iload_n 1, 1, 1, 0, .null), (59, .ifCond .eq 11, 3, 0, 70, .null), (62, .iload_n 2, 1, 2, 0, .null), (63, .ifCond .eq 7, 3, 0, 70, .null), (66, .iconst 1, 1, 0, 0, .int 1), (67, .goto 4, 3, 0, 71, .null), (70, .iconst 0, 1, 0, 0, .int 0), (71, .ireturn, 1, 0, 0, .null), (72, .iload_n 1, 1, 1, 0, .null), (73, .iload_n 2, 1, 2, 0, .null), (74, .if_icmp .ge 7, 3, 0, 81, .null), (77, .iconst 1, 1, 0, 0, .int 1), (78, .goto 4, 3, 0, 82, .null), (81, .iconst 0, 1, 0, 0, .int 0), (82, .ireturn, 1, 0, 0, .null), (83, .iload_n 1, 1, 1, 0, .null), (84, .iload_n 2, 1, 2, 0, .null), (85, .if_icmp .ne 7, 3, 0, 92, .null), (88, .iconst 1, 1, 0, 0, .int 1), (89, .goto 4, 3, 0, 93, .null), (92, .iconst 0, 1, 0, 0, .int 0), (93, .ireturn, 1, 0, 0, .null), (94, .iload_n 1, 1, 1, 0, .null), (95, .iload_n 2, 1, 2, 0, .null), (96, .iadd, 1, 0, 0, .null), (97, .ireturn, 1, 0, 0, .null), (98, .iload_n 1, 1, 1, 0, .null), (99, .iload_n 2, 1, 2, 0, .null), (100, .isub, 1, 0, 0, .null), (101, .ireturn, 1, 0, 0, .null), (102, .iload_n 1, 1, 1, 0, .null), (103, .iload_n 2, 1, 2, 0, .null), (104, .imul, 1, 0, 0, .null), (105, .ireturn, 1, 0, 0, .null)]
theorem ok_Sp_joined : cd_Sp_joined.all (mm_k M_Sp_joined) = true := by decide +kernel
abbrev M_Te_init : mm_M := (⟨"SchoolOnRaft$Text", "<init>", "([I[I[I)V"⟩, prog_12_method_1_code, 4, none)
def cd_Te_init : List mm_E := [(0, .aload_n 0, 1, 0, 0, .null), (1, .invokespecial 1, 3, 0, 0, .null), (4, .aload_n 0, 1, 0, 0, .null), (5, .aload_n 1, 1, 1, 0, .null), (6, .putfield 7, 3, 10, 0, .null), (9, .aload_n 0, 1, 0, 0, .null), (10, .aload_n 2, 1, 2, 0, .null), (11, .putfield 13, 3, 10, 1, .null), (14, .aload_n 0, 1, 0, 0, .null), (15, .aload_n 3, 1, 3, 0, .null), (16, .putfield 16, 3, 10, 2, .null), (19, .return_, 1, 0, 0, .null)]
theorem ok_Te_init : cd_Te_init.all (mm_k M_Te_init) = true := by decide +kernel
end
section
/-! ===== code, written by program out of the listing ===== -/
abbrev M_Sc_init : mm_M := (⟨"SchoolOnRaft", "<init>", "()V"⟩, prog_1_method_1_code, 1, none)
def cd_Sc_init : List mm_E := [(0, .aload_n 0, 1, 0, 0, .null), (1, .invokespecial 1, 3, 0, 0, .null), (4, .aload_n 0, 1, 0, 0, .null), (5, .new 7, 3, 0, 0, .null), (8, .dup, 1, 0, 0, .null), (9, .invokespecial 9, 3, 0, 0, .null), (12, .putfield 10, 3, 11, 0, .null), (15, .aload_n 0, 1, 0, 0, .null), (16, .new 16, 3, 0, 0, .null), (19, .dup, 1, 0, 0, .null), (20, .invokespecial 18, 3, 0, 0, .null), (23, .putfield 19, 3, 11, 1, .null), (26, .aload_n 0, 1, 0, 0, .null), (27, .new 23, 3, 0, 0, .null), (30, .dup, 1, 0, 0, .null), (31, .invokespecial 25, 3, 0, 0, .null), (34, .putfield 26, 3, 11, 2, .null), (37, .aload_n 0, 1, 0, 0, .null), (38, .new 30, 3, 0, 0, .null), (41, .dup, 1, 0, 0, .null), (42, .invokespecial 32, 3, 0, 0, .null), (45, .putfield 33, 3, 11, 3, .null), (48, .aload_n 0, 1, 0, 0, .null), (49, .iconst 0, 1, 0, 0, .int 0), (50, .putfield 37, 3, 11, 4, .null), (53, .aload_n 0, 1, 0, 0, .null), (54, .bipush 6, 2, 0, 0, .int 6), (56, .newarray .int, 2, 0, 0, .null), (58, .putfield 41, 3, 11, 5, .null), (61, .aload_n 0, 1, 0, 0, .null), (62, .bipush 6, 2, 0, 0, .int 6), (64, .newarray .int, 2, 0, 0, .null), (66, .putfield 45, 3, 11, 6, .null), (69, .aload_n 0, 1, 0, 0, .null), (70, .iconst 4, 1, 0, 0, .int 4), (71, .bipush 40, 2, 0, 0, .int 40), (73, .multianewarray 48 2, 4, 0, 0, .null), (77, .putfield 50, 3, 11, 7, .null), (80, .aload_n 0, 1, 0, 0, .null), (81, .iconst 4, 1, 0, 0, .int 4), (82, .newarray .int, 2, 0, 0, .null), (84, .putfield 53, 3, 11, 8, .null), (87, .aload_n 0, 1, 0, 0, .null), (88, .iconst 4, 1, 0, 0, .int 4), (89, .newarray .int, 2, 0, 0, .null), (91, .putfield 56, 3, 11, 9, .null), (94, .aload_n 0, 1, 0, 0, .null), (95, .getfield 56, 3, 11, 9, .null), (98, .iconst (-1), 1, 0, 0, .int (-1)), (99, .invokestatic 59, 3, 0, 0, .null), (102, .return_, 1, 0, 0, .null)]
theorem ok_Sc_init : cd_Sc_init.all (mm_k M_Sc_init) = true := by decide +kernel
abbrev M_Sc_lesson : mm_M := (⟨"SchoolOnRaft", "lesson", "(III)I"⟩, prog_1_method_2_code, 5, (some .int))
def cd_Sc_lesson : List mm_E := [(0, .aload_n 0, 1, 0, 0, .null), (1, .getfield 10, 3, 11, 0, .null), (4, .getfield 65, 3, 9, 0, .null), (7, .astore 4, 2, 4, 0, .null), (9, .iload_n 1, 1, 1, 0, .null), (10, .invokestatic 68, 3, 0, 0, .null), (13, .ifCond .eq 22, 3, 0, 35, .null), (16, .iload_n 2, 1, 2, 0, .null), (17, .invokestatic 72, 3, 0, 0, .null), (20, .ifCond .eq 15, 3, 0, 35, .null), (23, .iload_n 3, 1, 3, 0, .null), (24, .aload 4, 2, 4, 0, .null), (26, .getfield 75, 3, 0, 0, .null), (29, .invokestatic 79, 3, 0, 0, .null), (32, .ifCond .ne 6, 3, 0, 38, .null), (35, .bipush (-2), 2, 0, 0, .int (-2)), (37, .ireturn, 1, 0, 0, .null), (38, .aload 4, 2, 4, 0, .null), (40, .getfield 75, 3, 0, 0, .null), (43, .iconst 4, 1, 0, 0, .int 4), (44, .if_icmp .lt 6, 3, 0, 50, .null), (47, .bipush (-4), 2, 0, 0, .int (-4)), (49, .ireturn, 1, 0, 0, .null), (50, .aload_n 0, 1, 0, 0, .null), (51, .getfield 19, 3, 11, 1, .null), (54, .invokevirtual 83, 3, 0, 0, .null), (57, .aload 4, 2, 4, 0, .null), (59, .iload_n 1, 1, 1, 0, .null), (60, .iload_n 2, 1, 2, 0, .null), (61, .iload_n 3, 1, 3, 0, .null), (62, .invokevirtual 86, 3, 0, 0, .null), (65, .ireturn, 1, 0, 0, .null)]
theorem ok_Sc_lesson : cd_Sc_lesson.all (mm_k M_Sc_lesson) = true := by decide +kernel
abbrev M_Sc_child : mm_M := (⟨"SchoolOnRaft", "child", "(II)I"⟩, prog_1_method_3_code, 3, (some .int))
def cd_Sc_child : List mm_E := [(0, .aload_n 0, 1, 0, 0, .null), (1, .iload_n 1, 1, 1, 0, .null), (2, .iload_n 2, 1, 2, 0, .null), (3, .invokevirtual 90, 3, 0, 0, .null), (6, .ireturn, 1, 0, 0, .null)]
theorem ok_Sc_child : cd_Sc_child.all (mm_k M_Sc_child) = true := by decide +kernel
abbrev M_Sc_set : mm_M := (⟨"SchoolOnRaft", "set", "(III)I"⟩, prog_1_method_4_code, 6, (some .int))
def cd_Sc_set : List mm_E := [(0, .aload_n 0, 1, 0, 0, .null), (1, .iload_n 1, 1, 1, 0, .null), (2, .iload_n 2, 1, 2, 0, .null), (3, .iload_n 3, 1, 3, 0, .null), (4, .invokevirtual 94, 3, 0, 0, .null), (7, .ifCond .ne 6, 3, 0, 13, .null), (10, .bipush (-2), 2, 0, 0, .int (-2)), (12, .ireturn, 1, 0, 0, .null), (13, .aload_n 0, 1, 0, 0, .null), (14, .iload_n 1, 1, 1, 0, .null), (15, .invokevirtual 98, 3, 0, 0, .null), (18, .astore 4, 2, 4, 0, .null), (20, .aload 4, 2, 4, 0, .null), (22, .iload_n 2, 1, 2, 0, .null), (23, .iaload, 1, 0, 0, .null), (24, .istore 5, 2, 5, 0, .null), (26, .aload 4, 2, 4, 0, .null), (28, .iload_n 2, 1, 2, 0, .null), (29, .iload_n 3, 1, 3, 0, .null), (30, .iastore, 1, 0, 0, .null), (31, .aload_n 0, 1, 0, 0, .null), (32, .getfield 19, 3, 11, 1, .null), (35, .invokevirtual 83, 3, 0, 0, .null), (38, .iload 5, 2, 5, 0, .null), (40, .ireturn, 1, 0, 0, .null)]
theorem ok_Sc_set : cd_Sc_set.all (mm_k M_Sc_set) = true := by decide +kernel
abbrev M_Sc_told : mm_M := (⟨"SchoolOnRaft", "told", "(II)I"⟩, prog_1_method_5_code, 4, (some .int))
def cd_Sc_told : List mm_E := [(0, .iload_n 2, 1, 2, 0, .null), (1, .ifCond .lt 33, 3, 0, 34, .null), (4, .iload_n 2, 1, 2, 0, .null), (5, .bipush 7, 2, 0, 0, .int 7), (7, .if_icmp .gt 27, 3, 0, 34, .null), (10, .iload_n 2, 1, 2, 0, .null), (11, .iconst 5, 1, 0, 0, .int 5), (12, .if_icmp .ge 14, 3, 0, 26, .null), (15, .aload_n 0, 1, 0, 0, .null), (16, .iload_n 1, 1, 1, 0, .null), (17, .invokevirtual 102, 3, 0, 0, .null), (20, .ifCond .eq 14, 3, 0, 34, .null), (23, .goto 14, 3, 0, 37, .null), (26, .aload_n 0, 1, 0, 0, .null), (27, .iload_n 1, 1, 1, 0, .null), (28, .invokevirtual 105, 3, 0, 0, .null), (31, .ifCond .ne 6, 3, 0, 37, .null), (34, .bipush (-2), 2, 0, 0, .int (-2)), (36, .ireturn, 1, 0, 0, .null), (37, .aload_n 0, 1, 0, 0, .null), (38, .getfield 10, 3, 11, 0, .null), (41, .getfield 65, 3, 9, 0, .null), (44, .astore_n 3, 1, 3, 0, .null), (45, .iload_n 2, 1, 2, 0, .null), (46, .tableswitch 113 0 6 #[42, 49, 56, 63, 81, 99, 106], 42, 0, 0, .null), (88, .aload_n 3, 1, 3, 0, .null), (89, .getfield 108, 3, 0, 3, .null), (92, .iload_n 1, 1, 1, 0, .null), (93, .iaload, 1, 0, 0, .null), (94, .ireturn, 1, 0, 0, .null), (95, .aload_n 3, 1, 3, 0, .null), (96, .getfield 111, 3, 0, 4, .null), (99, .iload_n 1, 1, 1, 0, .null), (100, .iaload, 1, 0, 0, .null), (101, .ireturn, 1, 0, 0, .null), (102, .aload_n 3, 1, 3, 0, .null), (103, .getfield 114, 3, 0, 5, .null), (106, .iload_n 1, 1, 1, 0, .null), (107, .iaload, 1, 0, 0, .null), (108, .ireturn, 1, 0, 0, .null), (109, .aload_n 0, 1, 0, 0, .null), (110, .getfield 10, 3, 11, 0, .null), (113, .iload_n 1, 1, 1, 0, .null), (114, .invokevirtual 117, 3, 0, 0, .null), (117, .aload_n 3, 1, 3, 0, .null), (118, .getfield 111, 3, 0, 4, .null), (121, .iload_n 1, 1, 1, 0, .null), (122, .iaload, 1, 0, 0, .null), (123, .invokevirtual 121, 3, 0, 0, .null), (126, .ireturn, 1, 0, 0, .null), (127, .aload_n 0, 1, 0, 0, .null), (128, .getfield 10, 3, 11, 0, .null), (131, .iload_n 1, 1, 1, 0, .null), (132, .invokevirtual 117, 3, 0, 0, .null), (135, .aload_n 3, 1, 3, 0, .null), (136, .getfield 111, 3, 0, 4, .null), (139, .iload_n 1, 1, 1, 0, .null), (140, .iaload, 1, 0, 0, .null), (141, .invokevirtual 127, 3, 0, 0, .null), (144, .ireturn, 1, 0, 0, .null), (145, .aload_n 3, 1, 3, 0, .null), (146, .getfield 130, 3, 0, 6, .null), (149, .iload_n 1, 1, 1, 0, .null), (150, .iaload, 1, 0, 0, .null), (151, .ireturn, 1, 0, 0, .null), (152, .aload_n 3, 1, 3, 0, .null), (153, .getfield 133, 3, 0, 7, .null), (156, .iload_n 1, 1, 1, 0, .null), (157, .iaload, 1, 0, 0, .null), (158, .ireturn, 1, 0, 0, .null), (159, .aload_n 3, 1, 3, 0, .null), (160, .getfield 136, 3, 0, 8, .null), (163, .iload_n 1, 1, 1, 0, .null), (164, .iaload, 1, 0, 0, .null), (165, .ireturn, 1, 0, 0, .null)]
theorem ok_Sc_told : cd_Sc_told.all (mm_k M_Sc_told) = true := by decide +kernel
abbrev M_Sc_give : mm_M := (⟨"SchoolOnRaft", "give", "(III)I"⟩, prog_1_method_6_code, 6, (some .int))
def cd_Sc_give : List mm_E := [(0, .iload_n 1, 1, 1, 0, .null), (1, .invokestatic 139, 3, 0, 0, .null), (4, .ifCond .eq 23, 3, 0, 27, .null), (7, .iload_n 2, 1, 2, 0, .null), (8, .invokestatic 142, 3, 0, 0, .null), (11, .ifCond .eq 16, 3, 0, 27, .null), (14, .iload_n 3, 1, 3, 0, .null), (15, .iconst (-1), 1, 0, 0, .int (-1)), (16, .if_icmp .eq 14, 3, 0, 30, .null), (19, .aload_n 0, 1, 0, 0, .null), (20, .iload_n 3, 1, 3, 0, .null), (21, .invokevirtual 102, 3, 0, 0, .null), (24, .ifCond .ne 6, 3, 0, 30, .null), (27, .bipush (-2), 2, 0, 0, .int (-2)), (29, .ireturn, 1, 0, 0, .null), (30, .aload_n 0, 1, 0, 0, .null), (31, .iload_n 1, 1, 1, 0, .null), (32, .invokevirtual 145, 3, 0, 0, .null), (35, .astore 4, 2, 4, 0, .null), (37, .aload 4, 2, 4, 0, .null), (39, .iload_n 2, 1, 2, 0, .null), (40, .iaload, 1, 0, 0, .null), (41, .istore 5, 2, 5, 0, .null), (43, .aload 4, 2, 4, 0, .null), (45, .iload_n 2, 1, 2, 0, .null), (46, .iload_n 3, 1, 3, 0, .null), (47, .iastore, 1, 0, 0, .null), (48, .iload 5, 2, 5, 0, .null), (50, .ireturn, 1, 0, 0, .null)]
theorem ok_Sc_give : cd_Sc_give.all (mm_k M_Sc_give) = true := by decide +kernel
abbrev M_Sc_given : mm_M := (⟨"SchoolOnRaft", "given", "(II)I"⟩, prog_1_method_7_code, 3, (some .int))
def cd_Sc_given : List mm_E := [(0, .iload_n 1, 1, 1, 0, .null), (1, .invokestatic 139, 3, 0, 0, .null), (4, .ifCond .eq 10, 3, 0, 14, .null), (7, .iload_n 2, 1, 2, 0, .null), (8, .invokestatic 142, 3, 0, 0, .null), (11, .ifCond .ne 6, 3, 0, 17, .null), (14, .bipush (-2), 2, 0, 0, .int (-2)), (16, .ireturn, 1, 0, 0, .null), (17, .aload_n 0, 1, 0, 0, .null), (18, .iload_n 1, 1, 1, 0, .null), (19, .invokevirtual 145, 3, 0, 0, .null), (22, .iload_n 2, 1, 2, 0, .null), (23, .iaload, 1, 0, 0, .null), (24, .ireturn, 1, 0, 0, .null)]
theorem ok_Sc_given : cd_Sc_given.all (mm_k M_Sc_given) = true := by decide +kernel
abbrev M_Sc_feed : mm_M := (⟨"SchoolOnRaft", "feed", "(I)I"⟩, prog_1_method_8_code, 2, (some .int))
def cd_Sc_feed : List mm_E := [(0, .iload_n 1, 1, 1, 0, .null), (1, .ifCond .lt 10, 3, 0, 11, .null), (4, .iload_n 1, 1, 1, 0, .null), (5, .sipush 255, 3, 0, 0, .int 255), (8, .if_icmp .le 6, 3, 0, 14, .null), (11, .bipush (-2), 2, 0, 0, .int (-2)), (13, .ireturn, 1, 0, 0, .null), (14, .aload_n 0, 1, 0, 0, .null), (15, .getfield 26, 3, 11, 2, .null), (18, .getfield 148, 3, 6, 1, .null), (21, .sipush 160, 3, 0, 0, .int 160), (24, .if_icmp .lt 6, 3, 0, 30, .null), (27, .bipush (-4), 2, 0, 0, .int (-4)), (29, .ireturn, 1, 0, 0, .null), (30, .aload_n 0, 1, 0, 0, .null), (31, .getfield 26, 3, 11, 2, .null), (34, .getfield 151, 3, 6, 0, .null), (37, .aload_n 0, 1, 0, 0, .null), (38, .getfield 26, 3, 11, 2, .null), (41, .getfield 148, 3, 6, 1, .null), (44, .iload_n 1, 1, 1, 0, .null), (45, .iastore, 1, 0, 0, .null), (46, .aload_n 0, 1, 0, 0, .null), (47, .getfield 26, 3, 11, 2, .null), (50, .dup, 1, 0, 0, .null), (51, .getfield 148, 3, 6, 1, .null), (54, .iconst 1, 1, 0, 0, .int 1), (55, .iadd, 1, 0, 0, .null), (56, .putfield 148, 3, 6, 1, .null), (59, .aload_n 0, 1, 0, 0, .null), (60, .getfield 26, 3, 11, 2, .null), (63, .getfield 148, 3, 6, 1, .null), (66, .ireturn, 1, 0, 0, .null)]
theorem ok_Sc_feed : cd_Sc_feed.all (mm_k M_Sc_feed) = true := by decide +kernel
abbrev M_Sc_text : mm_M := (⟨"SchoolOnRaft", "text", "()I"⟩, prog_1_method_9_code, 2, (some .int))
def cd_Sc_text : List mm_E := [(0, .aload_n 0, 1, 0, 0, .null), (1, .getfield 10, 3, 11, 0, .null), (4, .getfield 154, 3, 9, 2, .null), (7, .bipush 6, 2, 0, 0, .int 6), (9, .if_icmp .lt 6, 3, 0, 15, .null), (12, .bipush (-4), 2, 0, 0, .int (-4)), (14, .ireturn, 1, 0, 0, .null), (15, .aload_n 0, 1, 0, 0, .null), (16, .getfield 26, 3, 11, 2, .null), (19, .invokevirtual 157, 3, 0, 0, .null), (22, .astore_n 1, 1, 1, 0, .null), (23, .aload_n 1, 1, 1, 0, .null), (24, .ifnonnull 14, 3, 0, 38, .null), (27, .bipush (-100), 2, 0, 0, .int (-100)), (29, .aload_n 0, 1, 0, 0, .null), (30, .getfield 26, 3, 11, 2, .null), (33, .getfield 161, 3, 6, 2, .null), (36, .isub, 1, 0, 0, .null), (37, .ireturn, 1, 0, 0, .null), (38, .aload_n 0, 1, 0, 0, .null), (39, .getfield 10, 3, 11, 0, .null), (42, .getfield 164, 3, 9, 1, .null), (45, .aload_n 0, 1, 0, 0, .null), (46, .getfield 10, 3, 11, 0, .null), (49, .getfield 154, 3, 9, 2, .null), (52, .aload_n 1, 1, 1, 0, .null), (53, .aastore, 1, 0, 0, .null), (54, .aload_n 0, 1, 0, 0, .null), (55, .getfield 10, 3, 11, 0, .null), (58, .dup, 1, 0, 0, .null), (59, .getfield 154, 3, 9, 2, .null), (62, .iconst 1, 1, 0, 0, .int 1), (63, .iadd, 1, 0, 0, .null), (64, .putfield 154, 3, 9, 2, .null), (67, .aload_n 0, 1, 0, 0, .null), (68, .getfield 10, 3, 11, 0, .null), (71, .getfield 154, 3, 9, 2, .null), (74, .iconst 1, 1, 0, 0, .int 1), (75, .isub, 1, 0, 0, .null), (76, .ireturn, 1, 0, 0, .null)]
theorem ok_Sc_text : cd_Sc_text.all (mm_k M_Sc_text) = true := by decide +kernel
abbrev M_Sc_force : mm_M := (⟨"SchoolOnRaft", "force", "(I)I"⟩, prog_1_method_10_code, 3, (some .int))
def cd_Sc_force : List mm_E := [(0, .iload_n 1, 1, 1, 0, .null), (1, .ifCond .lt 14, 3, 0, 15, .null), (4, .iload_n 1, 1, 1, 0, .null), (5, .aload_n 0, 1, 0, 0, .null), (6, .getfield 10, 3, 11, 0, .null), (9, .getfield 154, 3, 9, 2, .null), (12, .if_icmp .lt 6, 3, 0, 18, .null), (15, .bipush (-2), 2, 0, 0, .int (-2)), (17, .ireturn, 1, 0, 0, .null), (18, .aload_n 0, 1, 0, 0, .null), (19, .getfield 10, 3, 11, 0, .null), (22, .getfield 65, 3, 9, 0, .null), (25, .getfield 168, 3, 0, 2, .null), (28, .istore_n 2, 1, 2, 0, .null), (29, .aload_n 0, 1, 0, 0, .null), (30, .getfield 10, 3, 11, 0, .null), (33, .getfield 65, 3, 9, 0, .null), (36, .iload_n 1, 1, 1, 0, .null), (37, .putfield 168, 3, 0, 2, .null), (40, .aload_n 0, 1, 0, 0, .null), (41, .getfield 19, 3, 11, 1, .null), (44, .invokevirtual 83, 3, 0, 0, .null), (47, .iload_n 2, 1, 2, 0, .null), (48, .ireturn, 1, 0, 0, .null)]
theorem ok_Sc_force : cd_Sc_force.all (mm_k M_Sc_force) = true := by decide +kernel
abbrev M_Sc_has : mm_M := (⟨"SchoolOnRaft", "has", "(II)I"⟩, prog_1_method_11_code, 3, (some .int))
def cd_Sc_has : List mm_E := [(0, .aload_n 0, 1, 0, 0, .null), (1, .iload_n 1, 1, 1, 0, .null), (2, .invokevirtual 105, 3, 0, 0, .null), (5, .ifCond .eq 10, 3, 0, 15, .null), (8, .iload_n 2, 1, 2, 0, .null), (9, .invokestatic 142, 3, 0, 0, .null), (12, .ifCond .ne 6, 3, 0, 18, .null), (15, .bipush (-2), 2, 0, 0, .int (-2)), (17, .ireturn, 1, 0, 0, .null), (18, .aload_n 0, 1, 0, 0, .null), (19, .getfield 10, 3, 11, 0, .null), (22, .iload_n 2, 1, 2, 0, .null), (23, .iload_n 1, 1, 1, 0, .null), (24, .aload_n 0, 1, 0, 0, .null), (25, .getfield 10, 3, 11, 0, .null), (28, .getfield 65, 3, 9, 0, .null), (31, .getfield 130, 3, 0, 6, .null), (34, .iload_n 1, 1, 1, 0, .null), (35, .iaload, 1, 0, 0, .null), (36, .aload_n 0, 1, 0, 0, .null), (37, .getfield 10, 3, 11, 0, .null), (40, .getfield 65, 3, 9, 0, .null), (43, .getfield 133, 3, 0, 7, .null), (46, .iload_n 1, 1, 1, 0, .null), (47, .iaload, 1, 0, 0, .null), (48, .invokevirtual 171, 3, 0, 0, .null), (51, .ireturn, 1, 0, 0, .null)]
theorem ok_Sc_has : cd_Sc_has.all (mm_k M_Sc_has) = true := by decide +kernel
abbrev M_Sc_heard : mm_M := (⟨"SchoolOnRaft", "heard", "(III)I"⟩, prog_1_method_12_code, 6, (some .int))
def cd_Sc_heard : List mm_E := [(0, .aload_n 0, 1, 0, 0, .null), (1, .iload_n 1, 1, 1, 0, .null), (2, .invokevirtual 105, 3, 0, 0, .null), (5, .ifCond .eq 20, 3, 0, 25, .null), (8, .aload_n 0, 1, 0, 0, .null), (9, .iload_n 2, 1, 2, 0, .null), (10, .invokevirtual 102, 3, 0, 0, .null), (13, .ifCond .eq 12, 3, 0, 25, .null), (16, .iload_n 3, 1, 3, 0, .null), (17, .ifCond .lt 8, 3, 0, 25, .null), (20, .iload_n 3, 1, 3, 0, .null), (21, .iconst 1, 1, 0, 0, .int 1), (22, .if_icmp .le 6, 3, 0, 28, .null), (25, .bipush (-2), 2, 0, 0, .int (-2)), (27, .ireturn, 1, 0, 0, .null), (28, .aload_n 0, 1, 0, 0, .null), (29, .getfield 10, 3, 11, 0, .null), (32, .getfield 65, 3, 9, 0, .null), (35, .astore 4, 2, 4, 0, .null), (37, .aload_n 0, 1, 0, 0, .null), (38, .getfield 10, 3, 11, 0, .null), (41, .iload_n 1, 1, 1, 0, .null), (42, .aload 4, 2, 4, 0, .null), (44, .getfield 130, 3, 0, 6, .null), (47, .iload_n 1, 1, 1, 0, .null), (48, .iaload, 1, 0, 0, .null), (49, .aload 4, 2, 4, 0, .null), (51, .getfield 133, 3, 0, 7, .null), (54, .iload_n 1, 1, 1, 0, .null), (55, .iaload, 1, 0, 0, .null), (56, .aload 4, 2, 4, 0, .null), (58, .getfield 175, 3, 0, 9, .null), (61, .invokevirtual 178, 3, 0, 0, .null), (64, .istore 5, 2, 5, 0, .null), (66, .iload_n 3, 1, 3, 0, .null), (67, .ifCond .ne 12, 3, 0, 79, .null), (70, .iload 5, 2, 5, 0, .null), (72, .iload_n 2, 1, 2, 0, .null), (73, .invokestatic 182, 3, 0, 0, .null), (76, .goto 9, 3, 0, 85, .null), (79, .iload 5, 2, 5, 0, .null), (81, .iload_n 2, 1, 2, 0, .null), (82, .invokestatic 185, 3, 0, 0, .null), (85, .ireturn, 1, 0, 0, .null)]
theorem ok_Sc_heard : cd_Sc_heard.all (mm_k M_Sc_heard) = true := by decide +kernel
abbrev M_Sc_points : mm_M := (⟨"SchoolOnRaft", "points", "(I)I"⟩, prog_1_method_13_code, 2, (some .int))
def cd_Sc_points : List mm_E := [(0, .iload_n 1, 1, 1, 0, .null), (1, .iconst (-1), 1, 0, 0, .int (-1)), (2, .if_icmp .ne 18, 3, 0, 20, .null), (5, .aload_n 0, 1, 0, 0, .null), (6, .aload_n 0, 1, 0, 0, .null), (7, .getfield 10, 3, 11, 0, .null), (10, .getfield 65, 3, 9, 0, .null), (13, .getfield 175, 3, 0, 9, .null), (16, .invokevirtual 188, 3, 0, 0, .null), (19, .ireturn, 1, 0, 0, .null), (20, .aload_n 0, 1, 0, 0, .null), (21, .iload_n 1, 1, 1, 0, .null), (22, .invokevirtual 105, 3, 0, 0, .null), (25, .ifCond .eq 24, 3, 0, 49, .null), (28, .aload_n 0, 1, 0, 0, .null), (29, .getfield 10, 3, 11, 0, .null), (32, .iload_n 1, 1, 1, 0, .null), (33, .aload_n 0, 1, 0, 0, .null), (34, .getfield 10, 3, 11, 0, .null), (37, .getfield 65, 3, 9, 0, .null), (40, .getfield 175, 3, 0, 9, .null), (43, .invokevirtual 192, 3, 0, 0, .null), (46, .goto 5, 3, 0, 51, .null), (49, .bipush (-2), 2, 0, 0, .int (-2)), (51, .ireturn, 1, 0, 0, .null)]
theorem ok_Sc_points : cd_Sc_points.all (mm_k M_Sc_points) = true := by decide +kernel
abbrev M_Sc_best : mm_M := (⟨"SchoolOnRaft", "best", "(I)I"⟩, prog_1_method_14_code, 2, (some .int))
def cd_Sc_best : List mm_E := [(0, .iload_n 1, 1, 1, 0, .null), (1, .ifCond .lt 9, 3, 0, 10, .null), (4, .iload_n 1, 1, 1, 0, .null), (5, .bipush 6, 2, 0, 0, .int 6), (7, .if_icmp .le 6, 3, 0, 13, .null), (10, .bipush (-2), 2, 0, 0, .int (-2)), (12, .ireturn, 1, 0, 0, .null), (13, .aload_n 0, 1, 0, 0, .null), (14, .getfield 19, 3, 11, 1, .null), (17, .aload_n 0, 1, 0, 0, .null), (18, .getfield 10, 3, 11, 0, .null), (21, .invokevirtual 196, 3, 0, 0, .null), (24, .iload_n 1, 1, 1, 0, .null), (25, .ifCond .ne 13, 3, 0, 38, .null), (28, .aload_n 0, 1, 0, 0, .null), (29, .getfield 19, 3, 11, 1, .null), (32, .getfield 200, 3, 7, 1, .null), (35, .goto 14, 3, 0, 49, .null), (38, .aload_n 0, 1, 0, 0, .null), (39, .getfield 19, 3, 11, 1, .null), (42, .getfield 203, 3, 7, 0, .null), (45, .iload_n 1, 1, 1, 0, .null), (46, .iconst 1, 1, 0, 0, .int 1), (47, .isub, 1, 0, 0, .null), (48, .iaload, 1, 0, 0, .null), (49, .ireturn, 1, 0, 0, .null)]
theorem ok_Sc_best : cd_Sc_best.all (mm_k M_Sc_best) = true := by decide +kernel
abbrev M_Sc_lay : mm_M := (⟨"SchoolOnRaft", "lay", "()I"⟩, prog_1_method_15_code, 1, (some .int))
def cd_Sc_lay : List mm_E := [(0, .aload_n 0, 1, 0, 0, .null), (1, .getfield 19, 3, 11, 1, .null), (4, .aload_n 0, 1, 0, 0, .null), (5, .getfield 10, 3, 11, 0, .null), (8, .invokevirtual 196, 3, 0, 0, .null), (11, .aload_n 0, 1, 0, 0, .null), (12, .getfield 19, 3, 11, 1, .null), (15, .getfield 203, 3, 7, 0, .null), (18, .iconst 0, 1, 0, 0, .int 0), (19, .aload_n 0, 1, 0, 0, .null), (20, .getfield 10, 3, 11, 0, .null), (23, .getfield 65, 3, 9, 0, .null), (26, .getfield 175, 3, 0, 9, .null), (29, .iconst 0, 1, 0, 0, .int 0), (30, .bipush 6, 2, 0, 0, .int 6), (32, .invokestatic 206, 3, 0, 0, .null), (35, .aload_n 0, 1, 0, 0, .null), (36, .getfield 19, 3, 11, 1, .null), (39, .getfield 200, 3, 7, 1, .null), (42, .ireturn, 1, 0, 0, .null)]
theorem ok_Sc_lay : cd_Sc_lay.all (mm_k M_Sc_lay) = true := by decide +kernel
abbrev M_Sc_run : mm_M := (⟨"SchoolOnRaft", "run", "(III)I"⟩, prog_1_method_16_code, 12, (some .int))
def cd_Sc_run : List mm_E := [(0, .aload_n 0, 1, 0, 0, .null), (1, .getfield 10, 3, 11, 0, .null), (4, .getfield 65, 3, 9, 0, .null), (7, .astore 4, 2, 4, 0, .null), (9, .aload_n 0, 1, 0, 0, .null), (10, .iload_n 1, 1, 1, 0, .null), (11, .invokevirtual 105, 3, 0, 0, .null), (14, .ifCond .eq 24, 3, 0, 38, .null), (17, .iload_n 2, 1, 2, 0, .null), (18, .aload 4, 2, 4, 0, .null), (20, .getfield 75, 3, 0, 0, .null), (23, .invokestatic 79, 3, 0, 0, .null), (26, .ifCond .eq 12, 3, 0, 38, .null), (29, .iload_n 3, 1, 3, 0, .null), (30, .ifCond .lt 8, 3, 0, 38, .null), (33, .iload_n 3, 1, 3, 0, .null), (34, .iconst 2, 1, 0, 0, .int 2), (35, .if_icmp .le 6, 3, 0, 41, .null), (38, .bipush (-2), 2, 0, 0, .int (-2)), (40, .ireturn, 1, 0, 0, .null), (41, .iconst (-1), 1, 0, 0, .int (-1)), (42, .istore 5, 2, 5, 0, .null), (44, .iconst (-1), 1, 0, 0, .int (-1)), (45, .istore 6, 2, 6, 0, .null), (47, .iconst (-1), 1, 0, 0, .int (-1)), (48, .istore 7, 2, 7, 0, .null), (50, .iconst 0, 1, 0, 0, .int 0), (51, .istore 8, 2, 8, 0, .null), (53, .iload 8, 2, 8, 0, .null), (55, .aload 4, 2, 4, 0, .null), (57, .getfield 130, 3, 0, 6, .null), (60, .iload_n 1, 1, 1, 0, .null), (61, .iaload, 1, 0, 0, .null), (62, .if_icmp .gt 105, 3, 0, 167, .null), (65, .aload 4, 2, 4, 0, .null), (67, .getfield 133, 3, 0, 7, .null), (70, .iload_n 1, 1, 1, 0, .null), (71, .iaload, 1, 0, 0, .null), (72, .istore 9, 2, 9, 0, .null), (74, .iload 9, 2, 9, 0, .null), (76, .bipush 6, 2, 0, 0, .int 6), (78, .if_icmp .ge 83, 3, 0, 161, .null), (81, .aload_n 0, 1, 0, 0, .null), (82, .getfield 10, 3, 11, 0, .null), (85, .iload_n 1, 1, 1, 0, .null), (86, .iload 8, 2, 8, 0, .null), (88, .iload 9, 2, 9, 0, .null), (90, .aload 4, 2, 4, 0, .null), (92, .getfield 175, 3, 0, 9, .null), (95, .invokevirtual 178, 3, 0, 0, .null), (98, .istore 10, 2, 10, 0, .null), (100, .aload_n 0, 1, 0, 0, .null), (101, .getfield 10, 3, 11, 0, .null), (104, .iload 10, 2, 10, 0, .null), (106, .iconst 5, 1, 0, 0, .int 5), (107, .invokevirtual 212, 3, 0, 0, .null), (110, .iload_n 2, 1, 2, 0, .null), (111, .iand, 1, 0, 0, .null), (112, .iload_n 2, 1, 2, 0, .null), (113, .if_icmp .eq 6, 3, 0, 119, .null), (116, .goto 39, 3, 0, 155, .null), (119, .aload_n 0, 1, 0, 0, .null), (120, .iload_n 1, 1, 1, 0, .null), (121, .iload 8, 2, 8, 0, .null), (123, .iload 9, 2, 9, 0, .null), (125, .invokevirtual 215, 3, 0, 0, .null), (128, .istore 11, 2, 11, 0, .null), (130, .iload 5, 2, 5, 0, .null), (132, .iconst (-1), 1, 0, 0, .int (-1)), (133, .if_icmp .eq 10, 3, 0, 143, .null), (136, .iload 11, 2, 11, 0, .null), (138, .iload 5, 2, 5, 0, .null), (140, .if_icmp .ge 15, 3, 0, 155, .null), (143, .iload 11, 2, 11, 0, .null), (145, .istore 5, 2, 5, 0, .null), (147, .iload 8, 2, 8, 0, .null), (149, .istore 6, 2, 6, 0, .null), (151, .iload 9, 2, 9, 0, .null), (153, .istore 7, 2, 7, 0, .null), (155, .iinc 9 1, 3, 9, 0, .int 1), (158, .goto (-84), 3, 0, 74, .null), (161, .iinc 8 1, 3, 8, 0, .int 1), (164, .goto (-111), 3, 0, 53, .null), (167, .iload_n 3, 1, 3, 0, .null), (168, .ifCond .ne 8, 3, 0, 176, .null), (171, .iload 5, 2, 5, 0, .null), (173, .goto 15, 3, 0, 188, .null), (176, .iload_n 3, 1, 3, 0, .null), (177, .iconst 1, 1, 0, 0, .int 1), (178, .if_icmp .ne 8, 3, 0, 186, .null), (181, .iload 6, 2, 6, 0, .null), (183, .goto 5, 3, 0, 188, .null), (186, .iload 7, 2, 7, 0, .null), (188, .ireturn, 1, 0, 0, .null)]
theorem ok_Sc_run : cd_Sc_run.all (mm_k M_Sc_run) = true := by decide +kernel
abbrev M_Sc_twice : mm_M := (⟨"SchoolOnRaft", "twice", "(II)I"⟩, prog_1_method_17_code, 8, (some .int))
def cd_Sc_twice : List mm_E := [(0, .aload_n 0, 1, 0, 0, .null), (1, .iload_n 1, 1, 1, 0, .null), (2, .invokevirtual 102, 3, 0, 0, .null), (5, .ifCond .eq 12, 3, 0, 17, .null), (8, .iload_n 2, 1, 2, 0, .null), (9, .ifCond .lt 8, 3, 0, 17, .null), (12, .iload_n 2, 1, 2, 0, .null), (13, .iconst 1, 1, 0, 0, .int 1), (14, .if_icmp .le 6, 3, 0, 20, .null), (17, .bipush (-2), 2, 0, 0, .int (-2)), (19, .ireturn, 1, 0, 0, .null), (20, .aload_n 0, 1, 0, 0, .null), (21, .getfield 10, 3, 11, 0, .null), (24, .getfield 65, 3, 9, 0, .null), (27, .getfield 175, 3, 0, 9, .null), (30, .astore_n 3, 1, 3, 0, .null), (31, .aload_n 0, 1, 0, 0, .null), (32, .aload_n 3, 1, 3, 0, .null), (33, .invokevirtual 188, 3, 0, 0, .null), (36, .istore 4, 2, 4, 0, .null), (38, .iconst (-1), 1, 0, 0, .int (-1)), (39, .istore 5, 2, 5, 0, .null), (41, .iconst 0, 1, 0, 0, .int 0), (42, .istore 6, 2, 6, 0, .null), (44, .iload 6, 2, 6, 0, .null), (46, .bipush 6, 2, 0, 0, .int 6), (48, .if_icmp .ge 54, 3, 0, 102, .null), (51, .aload_n 3, 1, 3, 0, .null), (52, .iconst 0, 1, 0, 0, .int 0), (53, .aload_n 0, 1, 0, 0, .null), (54, .getfield 41, 3, 11, 5, .null), (57, .iconst 0, 1, 0, 0, .int 0), (58, .bipush 6, 2, 0, 0, .int 6), (60, .invokestatic 206, 3, 0, 0, .null), (63, .aload_n 0, 1, 0, 0, .null), (64, .getfield 41, 3, 11, 5, .null), (67, .iload 6, 2, 6, 0, .null), (69, .iload_n 1, 1, 1, 0, .null), (70, .iastore, 1, 0, 0, .null), (71, .aload_n 0, 1, 0, 0, .null), (72, .aload_n 0, 1, 0, 0, .null), (73, .getfield 41, 3, 11, 5, .null), (76, .invokevirtual 188, 3, 0, 0, .null), (79, .istore 7, 2, 7, 0, .null), (81, .iload 7, 2, 7, 0, .null), (83, .iload 4, 2, 4, 0, .null), (85, .if_icmp .le 11, 3, 0, 96, .null), (88, .iload 7, 2, 7, 0, .null), (90, .istore 4, 2, 4, 0, .null), (92, .iload 6, 2, 6, 0, .null), (94, .istore 5, 2, 5, 0, .null), (96, .iinc 6 1, 3, 6, 0, .int 1), (99, .goto (-55), 3, 0, 44, .null), (102, .iload_n 2, 1, 2, 0, .null), (103, .ifCond .eq 9, 3, 0, 112, .null), (106, .iload 5, 2, 5, 0, .null), (108, .iconst (-1), 1, 0, 0, .int (-1)), (109, .if_icmp .ne 8, 3, 0, 117, .null), (112, .iload 5, 2, 5, 0, .null), (114, .goto 5, 3, 0, 119, .null), (117, .iload 4, 2, 4, 0, .null), (119, .ireturn, 1, 0, 0, .null)]
theorem ok_Sc_twice : cd_Sc_twice.all (mm_k M_Sc_twice) = true := by decide +kernel
abbrev M_Sc_change : mm_M := (⟨"SchoolOnRaft", "change", "(II)I"⟩, prog_1_method_18_code, 9, (some .int))
def cd_Sc_change : List mm_E := [(0, .aload_n 0, 1, 0, 0, .null), (1, .iload_n 1, 1, 1, 0, .null), (2, .invokevirtual 105, 3, 0, 0, .null), (5, .ifCond .ne 6, 3, 0, 11, .null), (8, .bipush (-2), 2, 0, 0, .int (-2)), (10, .ireturn, 1, 0, 0, .null), (11, .aload_n 0, 1, 0, 0, .null), (12, .getfield 10, 3, 11, 0, .null), (15, .getfield 65, 3, 9, 0, .null), (18, .getfield 130, 3, 0, 6, .null), (21, .iload_n 1, 1, 1, 0, .null), (22, .iaload, 1, 0, 0, .null), (23, .istore_n 3, 1, 3, 0, .null), (24, .aload_n 0, 1, 0, 0, .null), (25, .getfield 10, 3, 11, 0, .null), (28, .getfield 65, 3, 9, 0, .null), (31, .getfield 133, 3, 0, 7, .null), (34, .iload_n 1, 1, 1, 0, .null), (35, .iaload, 1, 0, 0, .null), (36, .istore 4, 2, 4, 0, .null), (38, .iload_n 2, 1, 2, 0, .null), (39, .iconst (-1), 1, 0, 0, .int (-1)), (40, .if_icmp .eq 26, 3, 0, 66, .null), (43, .iload_n 2, 1, 2, 0, .null), (44, .iload_n 3, 1, 3, 0, .null), (45, .if_icmp .lt 9, 3, 0, 54, .null), (48, .iload_n 2, 1, 2, 0, .null), (49, .iload 4, 2, 4, 0, .null), (51, .if_icmp .le 8, 3, 0, 59, .null), (54, .bipush (-2), 2, 0, 0, .int (-2)), (56, .goto 9, 3, 0, 65, .null), (59, .aload_n 0, 1, 0, 0, .null), (60, .iload_n 1, 1, 1, 0, .null), (61, .iload_n 2, 1, 2, 0, .null), (62, .invokevirtual 218, 3, 0, 0, .null), (65, .ireturn, 1, 0, 0, .null), (66, .iconst (-1), 1, 0, 0, .int (-1)), (67, .istore 5, 2, 5, 0, .null), (69, .iconst (-1), 1, 0, 0, .int (-1)), (70, .istore 6, 2, 6, 0, .null), (72, .iload_n 3, 1, 3, 0, .null), (73, .istore 7, 2, 7, 0, .null), (75, .iload 7, 2, 7, 0, .null), (77, .iload 4, 2, 4, 0, .null), (79, .if_icmp .gt 33, 3, 0, 112, .null), (82, .aload_n 0, 1, 0, 0, .null), (83, .iload_n 1, 1, 1, 0, .null), (84, .iload 7, 2, 7, 0, .null), (86, .invokevirtual 218, 3, 0, 0, .null), (89, .istore 8, 2, 8, 0, .null), (91, .iload 8, 2, 8, 0, .null), (93, .iload 5, 2, 5, 0, .null), (95, .if_icmp .le 11, 3, 0, 106, .null), (98, .iload 8, 2, 8, 0, .null), (100, .istore 5, 2, 5, 0, .null), (102, .iload 7, 2, 7, 0, .null), (104, .istore 6, 2, 6, 0, .null), (106, .iinc 7 1, 3, 7, 0, .int 1), (109, .goto (-34), 3, 0, 75, .null), (112, .iload 6, 2, 6, 0, .null), (114, .ireturn, 1, 0, 0, .null)]
theorem ok_Sc_change : cd_Sc_change.all (mm_k M_Sc_change) = true := by decide +kernel
abbrev M_Sc_exam : mm_M := (⟨"SchoolOnRaft", "exam", "(II)I"⟩, prog_1_method_19_code, 4, (some .int))
def cd_Sc_exam : List mm_E := [(0, .aload_n 0, 1, 0, 0, .null), (1, .iload_n 1, 1, 1, 0, .null), (2, .iload_n 2, 1, 2, 0, .null), (3, .invokevirtual 221, 3, 0, 0, .null), (6, .istore_n 3, 1, 3, 0, .null), (7, .iload_n 3, 1, 3, 0, .null), (8, .ifCond .eq 5, 3, 0, 13, .null), (11, .iload_n 3, 1, 3, 0, .null), (12, .ireturn, 1, 0, 0, .null), (13, .aload_n 0, 1, 0, 0, .null), (14, .getfield 10, 3, 11, 0, .null), (17, .aload_n 0, 1, 0, 0, .null), (18, .getfield 50, 3, 11, 7, .null), (21, .iload_n 2, 1, 2, 0, .null), (22, .aaload, 1, 0, 0, .null), (23, .iload_n 1, 1, 1, 0, .null), (24, .aload_n 0, 1, 0, 0, .null), (25, .getfield 10, 3, 11, 0, .null), (28, .getfield 65, 3, 9, 0, .null), (31, .getfield 130, 3, 0, 6, .null), (34, .iload_n 1, 1, 1, 0, .null), (35, .iaload, 1, 0, 0, .null), (36, .aload_n 0, 1, 0, 0, .null), (37, .getfield 10, 3, 11, 0, .null), (40, .getfield 65, 3, 9, 0, .null), (43, .getfield 133, 3, 0, 7, .null), (46, .iload_n 1, 1, 1, 0, .null), (47, .iaload, 1, 0, 0, .null), (48, .invokevirtual 224, 3, 0, 0, .null), (51, .ireturn, 1, 0, 0, .null)]
theorem ok_Sc_exam : cd_Sc_exam.all (mm_k M_Sc_exam) = true := by decide +kernel
abbrev M_Sc_aboard : mm_M := (⟨"SchoolOnRaft", "aboard", "(III)I"⟩, prog_1_method_20_code, 9, (some .int))
def cd_Sc_aboard : List mm_E := [(0, .aload_n 0, 1, 0, 0, .null), (1, .iload_n 1, 1, 1, 0, .null), (2, .iload_n 2, 1, 2, 0, .null), (3, .invokevirtual 221, 3, 0, 0, .null), (6, .istore 4, 2, 4, 0, .null), (8, .iload 4, 2, 4, 0, .null), (10, .ifCond .eq 6, 3, 0, 16, .null), (13, .iload 4, 2, 4, 0, .null), (15, .ireturn, 1, 0, 0, .null), (16, .iload_n 3, 1, 3, 0, .null), (17, .ifCond .lt 8, 3, 0, 25, .null), (20, .iload_n 3, 1, 3, 0, .null), (21, .iconst 1, 1, 0, 0, .int 1), (22, .if_icmp .le 6, 3, 0, 28, .null), (25, .bipush (-2), 2, 0, 0, .int (-2)), (27, .ireturn, 1, 0, 0, .null), (28, .iconst 0, 1, 0, 0, .int 0), (29, .istore 5, 2, 5, 0, .null), (31, .iconst (-1), 1, 0, 0, .int (-1)), (32, .istore 6, 2, 6, 0, .null), (34, .iconst 0, 1, 0, 0, .int 0), (35, .istore 7, 2, 7, 0, .null), (37, .iload 7, 2, 7, 0, .null), (39, .bipush 6, 2, 0, 0, .int 6), (41, .if_icmp .ge 72, 3, 0, 113, .null), (44, .iload 7, 2, 7, 0, .null), (46, .istore 8, 2, 8, 0, .null), (48, .iload 8, 2, 8, 0, .null), (50, .bipush 6, 2, 0, 0, .int 6), (52, .if_icmp .ge 55, 3, 0, 107, .null), (55, .aload_n 0, 1, 0, 0, .null), (56, .getfield 10, 3, 11, 0, .null), (59, .aload_n 0, 1, 0, 0, .null), (60, .getfield 50, 3, 11, 7, .null), (63, .iload_n 2, 1, 2, 0, .null), (64, .aaload, 1, 0, 0, .null), (65, .iload_n 1, 1, 1, 0, .null), (66, .iload 7, 2, 7, 0, .null), (68, .iload 8, 2, 8, 0, .null), (70, .invokevirtual 224, 3, 0, 0, .null), (73, .iconst (-1), 1, 0, 0, .int (-1)), (74, .if_icmp .ne 27, 3, 0, 101, .null), (77, .iinc 5 1, 3, 5, 0, .int 1), (80, .iload 6, 2, 6, 0, .null), (82, .iconst (-1), 1, 0, 0, .int (-1)), (83, .if_icmp .ne 14, 3, 0, 97, .null), (86, .bipush 10, 2, 0, 0, .int 10), (88, .iload 7, 2, 7, 0, .null), (90, .imul, 1, 0, 0, .null), (91, .iload 8, 2, 8, 0, .null), (93, .iadd, 1, 0, 0, .null), (94, .goto 5, 3, 0, 99, .null), (97, .iload 6, 2, 6, 0, .null), (99, .istore 6, 2, 6, 0, .null), (101, .iinc 8 1, 3, 8, 0, .int 1), (104, .goto (-56), 3, 0, 48, .null), (107, .iinc 7 1, 3, 7, 0, .int 1), (110, .goto (-73), 3, 0, 37, .null), (113, .iload_n 3, 1, 3, 0, .null), (114, .ifCond .ne 8, 3, 0, 122, .null), (117, .iload 5, 2, 5, 0, .null), (119, .goto 5, 3, 0, 124, .null), (122, .iload 6, 2, 6, 0, .null), (124, .ireturn, 1, 0, 0, .null)]
theorem ok_Sc_aboard : cd_Sc_aboard.all (mm_k M_Sc_aboard) = true := by decide +kernel
abbrev M_Sc_together : mm_M := (⟨"SchoolOnRaft", "together", "(I)I"⟩, prog_1_method_21_code, 6, (some .int))
def cd_Sc_together : List mm_E := [(0, .iload_n 1, 1, 1, 0, .null), (1, .ifCond .lt 8, 3, 0, 9, .null), (4, .iload_n 1, 1, 1, 0, .null), (5, .iconst 2, 1, 0, 0, .int 2), (6, .if_icmp .le 6, 3, 0, 12, .null), (9, .bipush (-2), 2, 0, 0, .int (-2)), (11, .ireturn, 1, 0, 0, .null), (12, .iconst 0, 1, 0, 0, .int 0), (13, .istore_n 2, 1, 2, 0, .null), (14, .iload_n 2, 1, 2, 0, .null), (15, .aload_n 0, 1, 0, 0, .null), (16, .getfield 10, 3, 11, 0, .null), (19, .getfield 65, 3, 9, 0, .null), (22, .getfield 228, 3, 0, 1, .null), (25, .if_icmp .ge 30, 3, 0, 55, .null), (28, .aload_n 0, 1, 0, 0, .null), (29, .getfield 45, 3, 11, 6, .null), (32, .iload_n 2, 1, 2, 0, .null), (33, .aload_n 0, 1, 0, 0, .null), (34, .iload_n 2, 1, 2, 0, .null), (35, .aload_n 0, 1, 0, 0, .null), (36, .getfield 10, 3, 11, 0, .null), (39, .getfield 65, 3, 9, 0, .null), (42, .getfield 175, 3, 0, 9, .null), (45, .invokevirtual 231, 3, 0, 0, .null), (48, .iastore, 1, 0, 0, .null), (49, .iinc 2 1, 3, 2, 0, .int 1), (52, .goto (-38), 3, 0, 14, .null), (55, .iconst 1, 1, 0, 0, .int 1), (56, .aload_n 0, 1, 0, 0, .null), (57, .getfield 10, 3, 11, 0, .null), (60, .getfield 65, 3, 9, 0, .null), (63, .getfield 228, 3, 0, 1, .null), (66, .ishl, 1, 0, 0, .null), (67, .iconst 1, 1, 0, 0, .int 1), (68, .isub, 1, 0, 0, .null), (69, .istore_n 2, 1, 2, 0, .null), (70, .aload_n 0, 1, 0, 0, .null), (71, .iload_n 2, 1, 2, 0, .null), (72, .invokevirtual 234, 3, 0, 0, .null), (75, .istore_n 3, 1, 3, 0, .null), (76, .iload_n 1, 1, 1, 0, .null), (77, .ifCond .ne 5, 3, 0, 82, .null), (80, .iload_n 3, 1, 3, 0, .null), (81, .ireturn, 1, 0, 0, .null), (82, .iload_n 2, 1, 2, 0, .null), (83, .istore 4, 2, 4, 0, .null), (85, .iload_n 2, 1, 2, 0, .null), (86, .istore 5, 2, 5, 0, .null), (88, .iload 5, 2, 5, 0, .null), (90, .ifCond .lt 36, 3, 0, 126, .null), (93, .aload_n 0, 1, 0, 0, .null), (94, .iload 5, 2, 5, 0, .null), (96, .invokevirtual 234, 3, 0, 0, .null), (99, .iload_n 3, 1, 3, 0, .null), (100, .if_icmp .ne 20, 3, 0, 120, .null), (103, .iload 5, 2, 5, 0, .null), (105, .invokestatic 237, 3, 0, 0, .null), (108, .iload 4, 2, 4, 0, .null), (110, .invokestatic 237, 3, 0, 0, .null), (113, .if_icmp .gt 7, 3, 0, 120, .null), (116, .iload 5, 2, 5, 0, .null), (118, .istore 4, 2, 4, 0, .null), (120, .iinc 5 (-1), 3, 5, 0, .int (-1)), (123, .goto (-35), 3, 0, 88, .null), (126, .iload_n 1, 1, 1, 0, .null), (127, .iconst 1, 1, 0, 0, .int 1), (128, .if_icmp .ne 8, 3, 0, 136, .null), (131, .iload 4, 2, 4, 0, .null), (133, .goto 8, 3, 0, 141, .null), (136, .iload 4, 2, 4, 0, .null), (138, .invokestatic 237, 3, 0, 0, .null), (141, .ireturn, 1, 0, 0, .null)]
theorem ok_Sc_together : cd_Sc_together.all (mm_k M_Sc_together) = true := by decide +kernel
abbrev M_Sc_known : mm_M := (⟨"SchoolOnRaft", "known", "(I)I"⟩, prog_1_method_22_code, 2, (some .int))
def cd_Sc_known : List mm_E := [(0, .aload_n 0, 1, 0, 0, .null), (1, .iload_n 1, 1, 1, 0, .null), (2, .invokevirtual 102, 3, 0, 0, .null), (5, .ifCond .ne 6, 3, 0, 11, .null), (8, .bipush (-2), 2, 0, 0, .int (-2)), (10, .ireturn, 1, 0, 0, .null), (11, .aload_n 0, 1, 0, 0, .null), (12, .iload_n 1, 1, 1, 0, .null), (13, .aload_n 0, 1, 0, 0, .null), (14, .getfield 10, 3, 11, 0, .null), (17, .getfield 65, 3, 9, 0, .null), (20, .getfield 175, 3, 0, 9, .null), (23, .invokevirtual 242, 3, 0, 0, .null), (26, .ireturn, 1, 0, 0, .null)]
theorem ok_Sc_known : cd_Sc_known.all (mm_k M_Sc_known) = true := by decide +kernel
abbrev M_Sc_drawn : mm_M := (⟨"SchoolOnRaft", "drawn", "(II)I"⟩, prog_1_method_23_code, 3, (some .int))
def cd_Sc_drawn : List mm_E := [(0, .iload_n 2, 1, 2, 0, .null), (1, .invokestatic 245, 3, 0, 0, .null), (4, .ifCond .ne 6, 3, 0, 10, .null), (7, .bipush (-2), 2, 0, 0, .int (-2)), (9, .ireturn, 1, 0, 0, .null), (10, .aload_n 0, 1, 0, 0, .null), (11, .iload_n 1, 1, 1, 0, .null), (12, .iload_n 2, 1, 2, 0, .null), (13, .invokevirtual 248, 3, 0, 0, .null), (16, .aload_n 0, 1, 0, 0, .null), (17, .aload_n 0, 1, 0, 0, .null), (18, .getfield 41, 3, 11, 5, .null), (21, .invokevirtual 188, 3, 0, 0, .null), (24, .ireturn, 1, 0, 0, .null)]
theorem ok_Sc_drawn : cd_Sc_drawn.all (mm_k M_Sc_drawn) = true := by decide +kernel
abbrev M_Sc_chance : mm_M := (⟨"SchoolOnRaft", "chance", "(IIIII)J"⟩, prog_1_method_24_code, 9, (some .long))
def cd_Sc_chance : List mm_E := [(0, .iload_n 2, 1, 2, 0, .null), (1, .iconst 1, 1, 0, 0, .int 1), (2, .if_icmp .lt 36, 3, 0, 38, .null), (5, .iload_n 2, 1, 2, 0, .null), (6, .bipush 20, 2, 0, 0, .int 20), (8, .if_icmp .gt 30, 3, 0, 38, .null), (11, .iload_n 3, 1, 3, 0, .null), (12, .invokestatic 245, 3, 0, 0, .null), (15, .ifCond .eq 23, 3, 0, 38, .null), (18, .aload_n 0, 1, 0, 0, .null), (19, .iload 4, 2, 4, 0, .null), (21, .invokevirtual 102, 3, 0, 0, .null), (24, .ifCond .eq 14, 3, 0, 38, .null), (27, .iload 5, 2, 5, 0, .null), (29, .ifCond .lt 9, 3, 0, 38, .null), (32, .iload 5, 2, 5, 0, .null), (34, .iconst 1, 1, 0, 0, .int 1), (35, .if_icmp .le 7, 3, 0, 42, .null), (38, .ldc2_w 252, 3, 0, 0, .long (-4611686018427387904)), (41, .lreturn, 1, 0, 0, .null), (42, .iconst 1, 1, 0, 0, .int 1), (43, .aload_n 0, 1, 0, 0, .null), (44, .getfield 10, 3, 11, 0, .null), (47, .getfield 65, 3, 9, 0, .null), (50, .getfield 228, 3, 0, 1, .null), (53, .ishl, 1, 0, 0, .null), (54, .iconst 1, 1, 0, 0, .int 1), (55, .isub, 1, 0, 0, .null), (56, .istore 6, 2, 6, 0, .null), (58, .iconst 0, 1, 0, 0, .int 0), (59, .istore 7, 2, 7, 0, .null), (61, .iconst 0, 1, 0, 0, .int 0), (62, .istore 8, 2, 8, 0, .null), (64, .iload 8, 2, 8, 0, .null), (66, .iload_n 2, 1, 2, 0, .null), (67, .if_icmp .ge 36, 3, 0, 103, .null), (70, .aload_n 0, 1, 0, 0, .null), (71, .iload_n 1, 1, 1, 0, .null), (72, .iload 8, 2, 8, 0, .null), (74, .iadd, 1, 0, 0, .null), (75, .iload_n 3, 1, 3, 0, .null), (76, .invokevirtual 248, 3, 0, 0, .null), (79, .aload_n 0, 1, 0, 0, .null), (80, .iload 4, 2, 4, 0, .null), (82, .aload_n 0, 1, 0, 0, .null), (83, .getfield 41, 3, 11, 5, .null), (86, .invokevirtual 242, 3, 0, 0, .null), (89, .iload 6, 2, 6, 0, .null), (91, .if_icmp .ne 6, 3, 0, 97, .null), (94, .iinc 7 1, 3, 7, 0, .int 1), (97, .iinc 8 1, 3, 8, 0, .int 1), (100, .goto (-36), 3, 0, 64, .null), (103, .iload 7, 2, 7, 0, .null), (105, .iload_n 2, 1, 2, 0, .null), (106, .invokestatic 254, 3, 0, 0, .null), (109, .istore 8, 2, 8, 0, .null), (111, .iload 5, 2, 5, 0, .null), (113, .ifCond .ne 12, 3, 0, 125, .null), (116, .iload 7, 2, 7, 0, .null), (118, .iload 8, 2, 8, 0, .null), (120, .idiv, 1, 0, 0, .null), (121, .i2l, 1, 0, 0, .null), (122, .goto 8, 3, 0, 130, .null), (125, .iload_n 2, 1, 2, 0, .null), (126, .iload 8, 2, 8, 0, .null), (128, .idiv, 1, 0, 0, .null), (129, .i2l, 1, 0, 0, .null), (130, .lreturn, 1, 0, 0, .null)]
theorem ok_Sc_chance : cd_Sc_chance.all (mm_k M_Sc_chance) = true := by decide +kernel
abbrev M_Sc_image : mm_M := (⟨"SchoolOnRaft", "image", "()I"⟩, prog_1_method_25_code, 1, (some .int))
def cd_Sc_image : List mm_E := [(0, .aload_n 0, 1, 0, 0, .null), (1, .getfield 33, 3, 11, 3, .null), (4, .aload_n 0, 1, 0, 0, .null), (5, .getfield 10, 3, 11, 0, .null), (8, .getfield 65, 3, 9, 0, .null), (11, .invokevirtual 257, 3, 0, 0, .null), (14, .aload_n 0, 1, 0, 0, .null), (15, .iconst 1, 1, 0, 0, .int 1), (16, .putfield 37, 3, 11, 4, .null), (19, .aload_n 0, 1, 0, 0, .null), (20, .getfield 33, 3, 11, 3, .null), (23, .getfield 228, 3, 0, 1, .null), (26, .ireturn, 1, 0, 0, .null)]
theorem ok_Sc_image : cd_Sc_image.all (mm_k M_Sc_image) = true := by decide +kernel
abbrev M_Sc_back : mm_M := (⟨"SchoolOnRaft", "back", "()I"⟩, prog_1_method_26_code, 1, (some .int))
def cd_Sc_back : List mm_E := [(0, .aload_n 0, 1, 0, 0, .null), (1, .getfield 37, 3, 11, 4, .null), (4, .ifCond .ne 6, 3, 0, 10, .null), (7, .bipush (-3), 2, 0, 0, .int (-3)), (9, .ireturn, 1, 0, 0, .null), (10, .aload_n 0, 1, 0, 0, .null), (11, .getfield 10, 3, 11, 0, .null), (14, .getfield 65, 3, 9, 0, .null), (17, .aload_n 0, 1, 0, 0, .null), (18, .getfield 33, 3, 11, 3, .null), (21, .invokevirtual 257, 3, 0, 0, .null), (24, .aload_n 0, 1, 0, 0, .null), (25, .getfield 19, 3, 11, 1, .null), (28, .invokevirtual 83, 3, 0, 0, .null), (31, .aload_n 0, 1, 0, 0, .null), (32, .getfield 33, 3, 11, 3, .null), (35, .getfield 228, 3, 0, 1, .null), (38, .ireturn, 1, 0, 0, .null)]
theorem ok_Sc_back : cd_Sc_back.all (mm_k M_Sc_back) = true := by decide +kernel
abbrev M_Sc_count : mm_M := (⟨"SchoolOnRaft", "count", "(I)I"⟩, prog_1_method_27_code, 2, (some .int))
def cd_Sc_count : List mm_E := [(0, .iload_n 1, 1, 1, 0, .null), (1, .tableswitch 102 0 5 #[39, 50, 61, 75, 83, 91], 39, 0, 0, .null), (40, .aload_n 0, 1, 0, 0, .null), (41, .getfield 10, 3, 11, 0, .null), (44, .getfield 65, 3, 9, 0, .null), (47, .getfield 75, 3, 0, 0, .null), (50, .ireturn, 1, 0, 0, .null), (51, .aload_n 0, 1, 0, 0, .null), (52, .getfield 10, 3, 11, 0, .null), (55, .getfield 65, 3, 9, 0, .null), (58, .getfield 228, 3, 0, 1, .null), (61, .ireturn, 1, 0, 0, .null), (62, .aload_n 0, 1, 0, 0, .null), (63, .getfield 10, 3, 11, 0, .null), (66, .getfield 65, 3, 9, 0, .null), (69, .getfield 175, 3, 0, 9, .null), (72, .invokestatic 261, 3, 0, 0, .null), (75, .ireturn, 1, 0, 0, .null), (76, .aload_n 0, 1, 0, 0, .null), (77, .getfield 10, 3, 11, 0, .null), (80, .getfield 154, 3, 9, 2, .null), (83, .ireturn, 1, 0, 0, .null), (84, .aload_n 0, 1, 0, 0, .null), (85, .getfield 26, 3, 11, 2, .null), (88, .getfield 148, 3, 6, 1, .null), (91, .ireturn, 1, 0, 0, .null), (92, .aload_n 0, 1, 0, 0, .null), (93, .getfield 10, 3, 11, 0, .null), (96, .getfield 65, 3, 9, 0, .null), (99, .getfield 168, 3, 0, 2, .null), (102, .ireturn, 1, 0, 0, .null), (103, .bipush (-2), 2, 0, 0, .int (-2)), (105, .ireturn, 1, 0, 0, .null)]
theorem ok_Sc_count : cd_Sc_count.all (mm_k M_Sc_count) = true := by decide +kernel
abbrev M_Sc_sheet : mm_M := (⟨"SchoolOnRaft", "sheet", "(III)I"⟩, prog_1_method_28_code, 4, (some .int))
def cd_Sc_sheet : List mm_E := [(0, .iload_n 1, 1, 1, 0, .null), (1, .invokestatic 264, 3, 0, 0, .null), (4, .ifCond .eq 15, 3, 0, 19, .null), (7, .iload_n 2, 1, 2, 0, .null), (8, .iconst (-1), 1, 0, 0, .int (-1)), (9, .if_icmp .eq 13, 3, 0, 22, .null), (12, .iload_n 2, 1, 2, 0, .null), (13, .invokestatic 267, 3, 0, 0, .null), (16, .ifCond .ne 6, 3, 0, 22, .null), (19, .bipush (-2), 2, 0, 0, .int (-2)), (21, .ireturn, 1, 0, 0, .null), (22, .iload_n 2, 1, 2, 0, .null), (23, .iconst (-1), 1, 0, 0, .int (-1)), (24, .if_icmp .eq 12, 3, 0, 36, .null), (27, .iload_n 3, 1, 3, 0, .null), (28, .bipush 40, 2, 0, 0, .int 40), (30, .if_icmp .le 6, 3, 0, 36, .null), (33, .bipush (-2), 2, 0, 0, .int (-2)), (35, .ireturn, 1, 0, 0, .null), (36, .iload_n 2, 1, 2, 0, .null), (37, .iconst (-1), 1, 0, 0, .int (-1)), (38, .if_icmp .eq 10, 3, 0, 48, .null), (41, .iload_n 3, 1, 3, 0, .null), (42, .ifCond .ge 6, 3, 0, 48, .null), (45, .bipush (-14), 2, 0, 0, .int (-14)), (47, .ireturn, 1, 0, 0, .null), (48, .aload_n 0, 1, 0, 0, .null), (49, .getfield 56, 3, 11, 9, .null), (52, .iload_n 1, 1, 1, 0, .null), (53, .iload_n 2, 1, 2, 0, .null), (54, .iastore, 1, 0, 0, .null), (55, .aload_n 0, 1, 0, 0, .null), (56, .getfield 53, 3, 11, 8, .null), (59, .iload_n 1, 1, 1, 0, .null), (60, .iload_n 2, 1, 2, 0, .null), (61, .iconst (-1), 1, 0, 0, .int (-1)), (62, .if_icmp .ne 7, 3, 0, 69, .null), (65, .iconst 0, 1, 0, 0, .int 0), (66, .goto 4, 3, 0, 70, .null), (69, .iload_n 3, 1, 3, 0, .null), (70, .iastore, 1, 0, 0, .null), (71, .aload_n 0, 1, 0, 0, .null), (72, .getfield 50, 3, 11, 7, .null), (75, .iload_n 1, 1, 1, 0, .null), (76, .aaload, 1, 0, 0, .null), (77, .iconst 0, 1, 0, 0, .int 0), (78, .invokestatic 59, 3, 0, 0, .null), (81, .iconst 1, 1, 0, 0, .int 1), (82, .ireturn, 1, 0, 0, .null)]
theorem ok_Sc_sheet : cd_Sc_sheet.all (mm_k M_Sc_sheet) = true := by decide +kernel
abbrev M_Sc_cell : mm_M := (⟨"SchoolOnRaft", "cell", "(III)I"⟩, prog_1_method_29_code, 4, (some .int))
def cd_Sc_cell : List mm_E := [(0, .iload_n 1, 1, 1, 0, .null), (1, .invokestatic 264, 3, 0, 0, .null), (4, .ifCond .ne 6, 3, 0, 10, .null), (7, .bipush (-2), 2, 0, 0, .int (-2)), (9, .ireturn, 1, 0, 0, .null), (10, .aload_n 0, 1, 0, 0, .null), (11, .getfield 56, 3, 11, 9, .null), (14, .iload_n 1, 1, 1, 0, .null), (15, .iaload, 1, 0, 0, .null), (16, .iconst (-1), 1, 0, 0, .int (-1)), (17, .if_icmp .ne 6, 3, 0, 23, .null), (20, .bipush (-11), 2, 0, 0, .int (-11)), (22, .ireturn, 1, 0, 0, .null), (23, .iload_n 2, 1, 2, 0, .null), (24, .ifCond .lt 13, 3, 0, 37, .null), (27, .iload_n 2, 1, 2, 0, .null), (28, .aload_n 0, 1, 0, 0, .null), (29, .getfield 53, 3, 11, 8, .null), (32, .iload_n 1, 1, 1, 0, .null), (33, .iaload, 1, 0, 0, .null), (34, .if_icmp .lt 6, 3, 0, 40, .null), (37, .bipush (-12), 2, 0, 0, .int (-12)), (39, .ireturn, 1, 0, 0, .null), (40, .aload_n 0, 1, 0, 0, .null), (41, .getfield 50, 3, 11, 7, .null), (44, .iload_n 1, 1, 1, 0, .null), (45, .aaload, 1, 0, 0, .null), (46, .iload_n 2, 1, 2, 0, .null), (47, .aload_n 0, 1, 0, 0, .null), (48, .getfield 56, 3, 11, 9, .null), (51, .iload_n 1, 1, 1, 0, .null), (52, .iaload, 1, 0, 0, .null), (53, .iload_n 3, 1, 3, 0, .null), (54, .invokestatic 270, 3, 0, 0, .null), (57, .iastore, 1, 0, 0, .null), (58, .iconst 1, 1, 0, 0, .int 1), (59, .ireturn, 1, 0, 0, .null)]
theorem ok_Sc_cell : cd_Sc_cell.all (mm_k M_Sc_cell) = true := by decide +kernel
abbrev M_Sc_copy : mm_M := (⟨"SchoolOnRaft", "copy", "(IIIII)I"⟩, prog_1_method_30_code, 6, (some .int))
def cd_Sc_copy : List mm_E := [(0, .iload_n 1, 1, 1, 0, .null), (1, .invokestatic 264, 3, 0, 0, .null), (4, .ifCond .eq 10, 3, 0, 14, .null), (7, .iload_n 3, 1, 3, 0, .null), (8, .invokestatic 264, 3, 0, 0, .null), (11, .ifCond .ne 6, 3, 0, 17, .null), (14, .bipush (-2), 2, 0, 0, .int (-2)), (16, .ireturn, 1, 0, 0, .null), (17, .aload_n 0, 1, 0, 0, .null), (18, .getfield 56, 3, 11, 9, .null), (21, .iload_n 1, 1, 1, 0, .null), (22, .iaload, 1, 0, 0, .null), (23, .iconst (-1), 1, 0, 0, .int (-1)), (24, .if_icmp .eq 13, 3, 0, 37, .null), (27, .aload_n 0, 1, 0, 0, .null), (28, .getfield 56, 3, 11, 9, .null), (31, .iload_n 3, 1, 3, 0, .null), (32, .iaload, 1, 0, 0, .null), (33, .iconst (-1), 1, 0, 0, .int (-1)), (34, .if_icmp .ne 6, 3, 0, 40, .null), (37, .bipush (-11), 2, 0, 0, .int (-11)), (39, .ireturn, 1, 0, 0, .null), (40, .aload_n 0, 1, 0, 0, .null), (41, .getfield 56, 3, 11, 9, .null), (44, .iload_n 1, 1, 1, 0, .null), (45, .iaload, 1, 0, 0, .null), (46, .aload_n 0, 1, 0, 0, .null), (47, .getfield 56, 3, 11, 9, .null), (50, .iload_n 3, 1, 3, 0, .null), (51, .iaload, 1, 0, 0, .null), (52, .if_icmp .eq 6, 3, 0, 58, .null), (55, .bipush (-13), 2, 0, 0, .int (-13)), (57, .ireturn, 1, 0, 0, .null), (58, .iload_n 2, 1, 2, 0, .null), (59, .iload 5, 2, 5, 0, .null), (61, .aload_n 0, 1, 0, 0, .null), (62, .getfield 53, 3, 11, 8, .null), (65, .iload_n 1, 1, 1, 0, .null), (66, .iaload, 1, 0, 0, .null), (67, .invokestatic 273, 3, 0, 0, .null), (70, .ifCond .eq 19, 3, 0, 89, .null), (73, .iload 4, 2, 4, 0, .null), (75, .iload 5, 2, 5, 0, .null), (77, .aload_n 0, 1, 0, 0, .null), (78, .getfield 53, 3, 11, 8, .null), (81, .iload_n 3, 1, 3, 0, .null), (82, .iaload, 1, 0, 0, .null), (83, .invokestatic 273, 3, 0, 0, .null), (86, .ifCond .ne 6, 3, 0, 92, .null), (89, .bipush (-12), 2, 0, 0, .int (-12)), (91, .ireturn, 1, 0, 0, .null), (92, .aload_n 0, 1, 0, 0, .null), (93, .getfield 50, 3, 11, 7, .null), (96, .iload_n 1, 1, 1, 0, .null), (97, .aaload, 1, 0, 0, .null), (98, .iload_n 2, 1, 2, 0, .null), (99, .aload_n 0, 1, 0, 0, .null), (100, .getfield 50, 3, 11, 7, .null), (103, .iload_n 3, 1, 3, 0, .null), (104, .aaload, 1, 0, 0, .null), (105, .iload 4, 2, 4, 0, .null), (107, .iload 5, 2, 5, 0, .null), (109, .invokestatic 206, 3, 0, 0, .null), (112, .iload 5, 2, 5, 0, .null), (114, .ireturn, 1, 0, 0, .null)]
theorem ok_Sc_copy : cd_Sc_copy.all (mm_k M_Sc_copy) = true := by decide +kernel
abbrev M_Sc_children : mm_M := (⟨"SchoolOnRaft", "children", "(IIII)I"⟩, prog_1_method_31_code, 8, (some .int))
def cd_Sc_children : List mm_E := [(0, .iload_n 1, 1, 1, 0, .null), (1, .invokestatic 264, 3, 0, 0, .null), (4, .ifCond .eq 22, 3, 0, 26, .null), (7, .iload_n 2, 1, 2, 0, .null), (8, .invokestatic 267, 3, 0, 0, .null), (11, .ifCond .eq 15, 3, 0, 26, .null), (14, .iload 4, 2, 4, 0, .null), (16, .ifCond .lt 10, 3, 0, 26, .null), (19, .iload 4, 2, 4, 0, .null), (21, .bipush 6, 2, 0, 0, .int 6), (23, .if_icmp .le 6, 3, 0, 29, .null), (26, .bipush (-2), 2, 0, 0, .int (-2)), (28, .ireturn, 1, 0, 0, .null), (29, .aload_n 0, 1, 0, 0, .null), (30, .getfield 56, 3, 11, 9, .null), (33, .iload_n 1, 1, 1, 0, .null), (34, .iaload, 1, 0, 0, .null), (35, .iconst (-1), 1, 0, 0, .int (-1)), (36, .if_icmp .ne 6, 3, 0, 42, .null), (39, .bipush (-11), 2, 0, 0, .int (-11)), (41, .ireturn, 1, 0, 0, .null), (42, .aload_n 0, 1, 0, 0, .null), (43, .getfield 56, 3, 11, 9, .null), (46, .iload_n 1, 1, 1, 0, .null), (47, .iaload, 1, 0, 0, .null), (48, .iload_n 2, 1, 2, 0, .null), (49, .if_icmp .eq 6, 3, 0, 55, .null), (52, .bipush (-13), 2, 0, 0, .int (-13)), (54, .ireturn, 1, 0, 0, .null), (55, .iconst 0, 1, 0, 0, .int 0), (56, .istore 5, 2, 5, 0, .null), (58, .iconst 0, 1, 0, 0, .int 0), (59, .istore 6, 2, 6, 0, .null), (61, .iload 6, 2, 6, 0, .null), (63, .iload 4, 2, 4, 0, .null), (65, .if_icmp .ge 81, 3, 0, 146, .null), (68, .iload_n 3, 1, 3, 0, .null), (69, .iconst 2, 1, 0, 0, .int 2), (70, .iload 6, 2, 6, 0, .null), (72, .imul, 1, 0, 0, .null), (73, .iconst 2, 1, 0, 0, .int 2), (74, .iadd, 1, 0, 0, .null), (75, .aload_n 0, 1, 0, 0, .null), (76, .getfield 53, 3, 11, 8, .null), (79, .iload_n 1, 1, 1, 0, .null), (80, .iaload, 1, 0, 0, .null), (81, .invokestatic 273, 3, 0, 0, .null), (84, .ifCond .ne 6, 3, 0, 90, .null), (87, .bipush (-12), 2, 0, 0, .int (-12)), (89, .ireturn, 1, 0, 0, .null), (90, .aload_n 0, 1, 0, 0, .null), (91, .aload_n 0, 1, 0, 0, .null), (92, .getfield 50, 3, 11, 7, .null), (95, .iload_n 1, 1, 1, 0, .null), (96, .aaload, 1, 0, 0, .null), (97, .iload_n 3, 1, 3, 0, .null), (98, .iconst 2, 1, 0, 0, .int 2), (99, .iload 6, 2, 6, 0, .null), (101, .imul, 1, 0, 0, .null), (102, .iadd, 1, 0, 0, .null), (103, .iaload, 1, 0, 0, .null), (104, .aload_n 0, 1, 0, 0, .null), (105, .getfield 50, 3, 11, 7, .null), (108, .iload_n 1, 1, 1, 0, .null), (109, .aaload, 1, 0, 0, .null), (110, .iload_n 3, 1, 3, 0, .null), (111, .iconst 2, 1, 0, 0, .int 2), (112, .iload 6, 2, 6, 0, .null), (114, .imul, 1, 0, 0, .null), (115, .iadd, 1, 0, 0, .null), (116, .iconst 1, 1, 0, 0, .int 1), (117, .iadd, 1, 0, 0, .null), (118, .iaload, 1, 0, 0, .null), (119, .invokevirtual 90, 3, 0, 0, .null), (122, .istore 7, 2, 7, 0, .null), (124, .iload 7, 2, 7, 0, .null), (126, .ifCond .lt 10, 3, 0, 136, .null), (129, .iload 5, 2, 5, 0, .null), (131, .iconst 1, 1, 0, 0, .int 1), (132, .iadd, 1, 0, 0, .null), (133, .goto 5, 3, 0, 138, .null), (136, .iload 5, 2, 5, 0, .null), (138, .istore 5, 2, 5, 0, .null), (140, .iinc 6 1, 3, 6, 0, .int 1), (143, .goto (-82), 3, 0, 61, .null), (146, .iload 5, 2, 5, 0, .null), (148, .ireturn, 1, 0, 0, .null)]
theorem ok_Sc_children : cd_Sc_children.all (mm_k M_Sc_children) = true := by decide +kernel
abbrev M_Sc_taken : mm_M := (⟨"SchoolOnRaft", "taken", "(II)I"⟩, prog_1_method_32_code, 3, (some .int))
def cd_Sc_taken : List mm_E := [(0, .iload_n 2, 1, 2, 0, .null), (1, .invokestatic 68, 3, 0, 0, .null), (4, .ifCond .ne 6, 3, 0, 10, .null), (7, .bipush (-2), 2, 0, 0, .int (-2)), (9, .ireturn, 1, 0, 0, .null), (10, .aload_n 0, 1, 0, 0, .null), (11, .iload_n 1, 1, 1, 0, .null), (12, .invokevirtual 102, 3, 0, 0, .null), (15, .ifCond .ne 6, 3, 0, 21, .null), (18, .bipush (-11), 2, 0, 0, .int (-11)), (20, .ireturn, 1, 0, 0, .null), (21, .aload_n 0, 1, 0, 0, .null), (22, .getfield 10, 3, 11, 0, .null), (25, .iload_n 1, 1, 1, 0, .null), (26, .invokevirtual 117, 3, 0, 0, .null), (29, .iload_n 2, 1, 2, 0, .null), (30, .invokestatic 276, 3, 0, 0, .null), (33, .ifCond .eq 18, 3, 0, 51, .null), (36, .aload_n 0, 1, 0, 0, .null), (37, .getfield 10, 3, 11, 0, .null), (40, .getfield 65, 3, 9, 0, .null), (43, .getfield 111, 3, 0, 4, .null), (46, .iload_n 1, 1, 1, 0, .null), (47, .iaload, 1, 0, 0, .null), (48, .goto 5, 3, 0, 53, .null), (51, .bipush (-13), 2, 0, 0, .int (-13)), (53, .ireturn, 1, 0, 0, .null)]
theorem ok_Sc_taken : cd_Sc_taken.all (mm_k M_Sc_taken) = true := by decide +kernel
abbrev M_Sc_isLesson : mm_M := (⟨"SchoolOnRaft", "isLesson", "(I)Z"⟩, prog_1_method_33_code, 2, (some .boolean))
def cd_Sc_isLesson : List mm_E := [(0, .iload_n 1, 1, 1, 0, .null), (1, .ifCond .lt 21, 3, 0, 22, .null), (4, .iload_n 1, 1, 1, 0, .null), (5, .aload_n 0, 1, 0, 0, .null), (6, .getfield 10, 3, 11, 0, .null), (9, .getfield 65, 3, 9, 0, .null), (12, .getfield 75, 3, 0, 0, .null), (15, .if_icmp .ge 7, 3, 0, 22, .null), (18, .iconst 1, 1, 0, 0, .int 1), (19, .goto 4, 3, 0, 23, .null), (22, .iconst 0, 1, 0, 0, .int 0), (23, .ireturn, 1, 0, 0, .null)]
theorem ok_Sc_isLesson : cd_Sc_isLesson.all (mm_k M_Sc_isLesson) = true := by decide +kernel
abbrev M_Sc_isChild : mm_M := (⟨"SchoolOnRaft", "isChild", "(I)Z"⟩, prog_1_method_34_code, 2, (some .boolean))
def cd_Sc_isChild : List mm_E := [(0, .iload_n 1, 1, 1, 0, .null), (1, .ifCond .lt 21, 3, 0, 22, .null), (4, .iload_n 1, 1, 1, 0, .null), (5, .aload_n 0, 1, 0, 0, .null), (6, .getfield 10, 3, 11, 0, .null), (9, .getfield 65, 3, 9, 0, .null), (12, .getfield 228, 3, 0, 1, .null), (15, .if_icmp .ge 7, 3, 0, 22, .null), (18, .iconst 1, 1, 0, 0, .int 1), (19, .goto 4, 3, 0, 23, .null), (22, .iconst 0, 1, 0, 0, .int 0), (23, .ireturn, 1, 0, 0, .null)]
theorem ok_Sc_isChild : cd_Sc_isChild.all (mm_k M_Sc_isChild) = true := by decide +kernel
abbrev M_Sc_isBend : mm_M := (⟨"SchoolOnRaft", "isBend", "(I)Z"⟩, prog_1_method_35_code, 1, (some .boolean))
def cd_Sc_isBend : List mm_E := [(0, .iload_n 0, 1, 0, 0, .null), (1, .ifCond .lt 13, 3, 0, 14, .null), (4, .iload_n 0, 1, 0, 0, .null), (5, .bipush 6, 2, 0, 0, .int 6), (7, .if_icmp .ge 7, 3, 0, 14, .null), (10, .iconst 1, 1, 0, 0, .int 1), (11, .goto 4, 3, 0, 15, .null), (14, .iconst 0, 1, 0, 0, .int 0), (15, .ireturn, 1, 0, 0, .null)]
theorem ok_Sc_isBend : cd_Sc_isBend.all (mm_k M_Sc_isBend) = true := by decide +kernel
abbrev M_Sc_isRaft : mm_M := (⟨"SchoolOnRaft", "isRaft", "(I)Z"⟩, prog_1_method_36_code, 1, (some .boolean))
def cd_Sc_isRaft : List mm_E := [(0, .iload_n 0, 1, 0, 0, .null), (1, .ifCond .eq 8, 3, 0, 9, .null), (4, .iload_n 0, 1, 0, 0, .null), (5, .iconst 1, 1, 0, 0, .int 1), (6, .if_icmp .ne 7, 3, 0, 13, .null), (9, .iconst 1, 1, 0, 0, .int 1), (10, .goto 4, 3, 0, 14, .null), (13, .iconst 0, 1, 0, 0, .int 0), (14, .ireturn, 1, 0, 0, .null)]
theorem ok_Sc_isRaft : cd_Sc_isRaft.all (mm_k M_Sc_isRaft) = true := by decide +kernel
abbrev M_Sc_isKind : mm_M := (⟨"SchoolOnRaft", "isKind", "(I)Z"⟩, prog_1_method_37_code, 1, (some .boolean))
def cd_Sc_isKind : List mm_E := [(0, .iload_n 0, 1, 0, 0, .null), (1, .ifCond .lt 13, 3, 0, 14, .null), (4, .iload_n 0, 1, 0, 0, .null), (5, .bipush 6, 2, 0, 0, .int 6), (7, .if_icmp .ge 7, 3, 0, 14, .null), (10, .iconst 1, 1, 0, 0, .int 1), (11, .goto 4, 3, 0, 15, .null), (14, .iconst 0, 1, 0, 0, .int 0), (15, .ireturn, 1, 0, 0, .null)]
theorem ok_Sc_isKind : cd_Sc_isKind.all (mm_k M_Sc_isKind) = true := by decide +kernel
abbrev M_Sc_isNumber : mm_M := (⟨"SchoolOnRaft", "isNumber", "(I)Z"⟩, prog_1_method_38_code, 1, (some .boolean))
def cd_Sc_isNumber : List mm_E := [(0, .iload_n 0, 1, 0, 0, .null), (1, .ifCond .lt 13, 3, 0, 14, .null), (4, .iload_n 0, 1, 0, 0, .null), (5, .bipush 9, 2, 0, 0, .int 9), (7, .if_icmp .gt 7, 3, 0, 14, .null), (10, .iconst 1, 1, 0, 0, .int 1), (11, .goto 4, 3, 0, 15, .null), (14, .iconst 0, 1, 0, 0, .int 0), (15, .ireturn, 1, 0, 0, .null)]
theorem ok_Sc_isNumber : cd_Sc_isNumber.all (mm_k M_Sc_isNumber) = true := by decide +kernel
abbrev M_Sc_isAge : mm_M := (⟨"SchoolOnRaft", "isAge", "(I)Z"⟩, prog_1_method_39_code, 1, (some .boolean))
def cd_Sc_isAge : List mm_E := [(0, .iload_n 0, 1, 0, 0, .null), (1, .iconst 5, 1, 0, 0, .int 5), (2, .if_icmp .lt 13, 3, 0, 15, .null), (5, .iload_n 0, 1, 0, 0, .null), (6, .bipush 14, 2, 0, 0, .int 14), (8, .if_icmp .gt 7, 3, 0, 15, .null), (11, .iconst 1, 1, 0, 0, .int 1), (12, .goto 4, 3, 0, 16, .null), (15, .iconst 0, 1, 0, 0, .int 0), (16, .ireturn, 1, 0, 0, .null)]
theorem ok_Sc_isAge : cd_Sc_isAge.all (mm_k M_Sc_isAge) = true := by decide +kernel
abbrev M_Sc_isWater : mm_M := (⟨"SchoolOnRaft", "isWater", "(I)Z"⟩, prog_1_method_40_code, 1, (some .boolean))
def cd_Sc_isWater : List mm_E := [(0, .iload_n 0, 1, 0, 0, .null), (1, .ifCond .lt 13, 3, 0, 14, .null), (4, .iload_n 0, 1, 0, 0, .null), (5, .bipush 10, 2, 0, 0, .int 10), (7, .if_icmp .gt 7, 3, 0, 14, .null), (10, .iconst 1, 1, 0, 0, .int 1), (11, .goto 4, 3, 0, 15, .null), (14, .iconst 0, 1, 0, 0, .int 0), (15, .ireturn, 1, 0, 0, .null)]
theorem ok_Sc_isWater : cd_Sc_isWater.all (mm_k M_Sc_isWater) = true := by decide +kernel
abbrev M_Sc_isSheet : mm_M := (⟨"SchoolOnRaft", "isSheet", "(I)Z"⟩, prog_1_method_41_code, 1, (some .boolean))
def cd_Sc_isSheet : List mm_E := [(0, .iload_n 0, 1, 0, 0, .null), (1, .ifCond .lt 12, 3, 0, 13, .null), (4, .iload_n 0, 1, 0, 0, .null), (5, .iconst 4, 1, 0, 0, .int 4), (6, .if_icmp .ge 7, 3, 0, 13, .null), (9, .iconst 1, 1, 0, 0, .int 1), (10, .goto 4, 3, 0, 14, .null), (13, .iconst 0, 1, 0, 0, .int 0), (14, .ireturn, 1, 0, 0, .null)]
theorem ok_Sc_isSheet : cd_Sc_isSheet.all (mm_k M_Sc_isSheet) = true := by decide +kernel
abbrev M_Sc_isSort : mm_M := (⟨"SchoolOnRaft", "isSort", "(I)Z"⟩, prog_1_method_42_code, 1, (some .boolean))
def cd_Sc_isSort : List mm_E := [(0, .iload_n 0, 1, 0, 0, .null), (1, .ifCond .lt 12, 3, 0, 13, .null), (4, .iload_n 0, 1, 0, 0, .null), (5, .iconst 3, 1, 0, 0, .int 3), (6, .if_icmp .ge 7, 3, 0, 13, .null), (9, .iconst 1, 1, 0, 0, .int 1), (10, .goto 4, 3, 0, 14, .null), (13, .iconst 0, 1, 0, 0, .int 0), (14, .ireturn, 1, 0, 0, .null)]
theorem ok_Sc_isSort : cd_Sc_isSort.all (mm_k M_Sc_isSort) = true := by decide +kernel
abbrev M_Sc_areLessons : mm_M := (⟨"SchoolOnRaft", "areLessons", "(II)Z"⟩, prog_1_method_43_code, 2, (some .boolean))
def cd_Sc_areLessons : List mm_E := [(0, .iload_n 0, 1, 0, 0, .null), (1, .iload_n 1, 1, 1, 0, .null), (2, .iushr, 1, 0, 0, .null), (3, .ifCond .ne 7, 3, 0, 10, .null), (6, .iconst 1, 1, 0, 0, .int 1), (7, .goto 4, 3, 0, 11, .null), (10, .iconst 0, 1, 0, 0, .int 0), (11, .ireturn, 1, 0, 0, .null)]
theorem ok_Sc_areLessons : cd_Sc_areLessons.all (mm_k M_Sc_areLessons) = true := by decide +kernel
abbrev M_Sc_isStretch : mm_M := (⟨"SchoolOnRaft", "isStretch", "(III)Z"⟩, prog_1_method_44_code, 3, (some .boolean))
def cd_Sc_isStretch : List mm_E := [(0, .iload_n 0, 1, 0, 0, .null), (1, .ifCond .lt 23, 3, 0, 24, .null), (4, .iload_n 1, 1, 1, 0, .null), (5, .ifCond .lt 19, 3, 0, 24, .null), (8, .iload_n 1, 1, 1, 0, .null), (9, .iload_n 2, 1, 2, 0, .null), (10, .if_icmp .gt 14, 3, 0, 24, .null), (13, .iload_n 0, 1, 0, 0, .null), (14, .iload_n 2, 1, 2, 0, .null), (15, .iload_n 1, 1, 1, 0, .null), (16, .isub, 1, 0, 0, .null), (17, .if_icmp .gt 7, 3, 0, 24, .null), (20, .iconst 1, 1, 0, 0, .int 1), (21, .goto 4, 3, 0, 25, .null), (24, .iconst 0, 1, 0, 0, .int 0), (25, .ireturn, 1, 0, 0, .null)]
theorem ok_Sc_isStretch : cd_Sc_isStretch.all (mm_k M_Sc_isStretch) = true := by decide +kernel
abbrev M_Sc_maySet : mm_M := (⟨"SchoolOnRaft", "maySet", "(III)Z"⟩, prog_1_method_45_code, 5, (some .boolean))
def cd_Sc_maySet : List mm_E := [(0, .aload_n 0, 1, 0, 0, .null), (1, .getfield 10, 3, 11, 0, .null), (4, .getfield 65, 3, 9, 0, .null), (7, .astore 4, 2, 4, 0, .null), (9, .iload_n 1, 1, 1, 0, .null), (10, .tableswitch 157 0 4 #[34, 55, 77, 106, 136], 34, 0, 0, .null), (44, .aload_n 0, 1, 0, 0, .null), (45, .iload_n 2, 1, 2, 0, .null), (46, .invokevirtual 102, 3, 0, 0, .null), (49, .ifCond .eq 14, 3, 0, 63, .null), (52, .iload_n 3, 1, 3, 0, .null), (53, .invokestatic 72, 3, 0, 0, .null), (56, .ifCond .eq 7, 3, 0, 63, .null), (59, .iconst 1, 1, 0, 0, .int 1), (60, .goto 4, 3, 0, 64, .null), (63, .iconst 0, 1, 0, 0, .int 0), (64, .ireturn, 1, 0, 0, .null), (65, .aload_n 0, 1, 0, 0, .null), (66, .iload_n 2, 1, 2, 0, .null), (67, .invokevirtual 102, 3, 0, 0, .null), (70, .ifCond .eq 15, 3, 0, 85, .null), (73, .iload_n 3, 1, 3, 0, .null), (74, .iload_n 2, 1, 2, 0, .null), (75, .invokestatic 79, 3, 0, 0, .null), (78, .ifCond .eq 7, 3, 0, 85, .null), (81, .iconst 1, 1, 0, 0, .int 1), (82, .goto 4, 3, 0, 86, .null), (85, .iconst 0, 1, 0, 0, .int 0), (86, .ireturn, 1, 0, 0, .null), (87, .aload_n 0, 1, 0, 0, .null), (88, .iload_n 2, 1, 2, 0, .null), (89, .invokevirtual 105, 3, 0, 0, .null), (92, .ifCond .eq 22, 3, 0, 114, .null), (95, .iload_n 3, 1, 3, 0, .null), (96, .ifCond .lt 18, 3, 0, 114, .null), (99, .iload_n 3, 1, 3, 0, .null), (100, .aload 4, 2, 4, 0, .null), (102, .getfield 133, 3, 0, 7, .null), (105, .iload_n 2, 1, 2, 0, .null), (106, .iaload, 1, 0, 0, .null), (107, .if_icmp .gt 7, 3, 0, 114, .null), (110, .iconst 1, 1, 0, 0, .int 1), (111, .goto 4, 3, 0, 115, .null), (114, .iconst 0, 1, 0, 0, .int 0), (115, .ireturn, 1, 0, 0, .null), (116, .aload_n 0, 1, 0, 0, .null), (117, .iload_n 2, 1, 2, 0, .null), (118, .invokevirtual 105, 3, 0, 0, .null), (121, .ifCond .eq 23, 3, 0, 144, .null), (124, .iload_n 3, 1, 3, 0, .null), (125, .aload 4, 2, 4, 0, .null), (127, .getfield 130, 3, 0, 6, .null), (130, .iload_n 2, 1, 2, 0, .null), (131, .iaload, 1, 0, 0, .null), (132, .if_icmp .lt 12, 3, 0, 144, .null), (135, .iload_n 3, 1, 3, 0, .null), (136, .iconst 5, 1, 0, 0, .int 5), (137, .if_icmp .gt 7, 3, 0, 144, .null), (140, .iconst 1, 1, 0, 0, .int 1), (141, .goto 4, 3, 0, 145, .null), (144, .iconst 0, 1, 0, 0, .int 0), (145, .ireturn, 1, 0, 0, .null), (146, .aload_n 0, 1, 0, 0, .null), (147, .iload_n 2, 1, 2, 0, .null), (148, .invokevirtual 105, 3, 0, 0, .null), (151, .ifCond .eq 14, 3, 0, 165, .null), (154, .iload_n 3, 1, 3, 0, .null), (155, .invokestatic 280, 3, 0, 0, .null), (158, .ifCond .eq 7, 3, 0, 165, .null), (161, .iconst 1, 1, 0, 0, .int 1), (162, .goto 4, 3, 0, 166, .null), (165, .iconst 0, 1, 0, 0, .int 0), (166, .ireturn, 1, 0, 0, .null), (167, .iconst 0, 1, 0, 0, .int 0), (168, .ireturn, 1, 0, 0, .null)]
theorem ok_Sc_maySet : cd_Sc_maySet.all (mm_k M_Sc_maySet) = true := by decide +kernel
abbrev M_Sc_settable : mm_M := (⟨"SchoolOnRaft", "settable", "(I)[I"⟩, prog_1_method_46_code, 3, (some (.array .int)))
def cd_Sc_settable : List mm_E := [(0, .aload_n 0, 1, 0, 0, .null), (1, .getfield 10, 3, 11, 0, .null), (4, .getfield 65, 3, 9, 0, .null), (7, .astore_n 2, 1, 2, 0, .null), (8, .iload_n 1, 1, 1, 0, .null), (9, .tableswitch 51 0 3 #[31, 36, 41, 46], 31, 0, 0, .null), (40, .aload_n 2, 1, 2, 0, .null), (41, .getfield 111, 3, 0, 4, .null), (44, .areturn, 1, 0, 0, .null), (45, .aload_n 2, 1, 2, 0, .null), (46, .getfield 114, 3, 0, 5, .null), (49, .areturn, 1, 0, 0, .null), (50, .aload_n 2, 1, 2, 0, .null), (51, .getfield 130, 3, 0, 6, .null), (54, .areturn, 1, 0, 0, .null), (55, .aload_n 2, 1, 2, 0, .null), (56, .getfield 133, 3, 0, 7, .null), (59, .areturn, 1, 0, 0, .null), (60, .aload_n 2, 1, 2, 0, .null), (61, .getfield 136, 3, 0, 8, .null), (64, .areturn, 1, 0, 0, .null)]
theorem ok_Sc_settable : cd_Sc_settable.all (mm_k M_Sc_settable) = true := by decide +kernel
abbrev M_Sc_isUnder : mm_M := (⟨"SchoolOnRaft", "isUnder", "(LSchoolOnRaft$Kind;I)Z"⟩, prog_1_method_47_code, 2, (some .boolean))
def cd_Sc_isUnder : List mm_E := [(0, .iload_n 1, 1, 1, 0, .null), (1, .tableswitch 60 1 5 #[35, 40, 45, 50, 55], 35, 0, 0, .null), (36, .aload_n 0, 1, 0, 0, .null), (37, .instanceof 283, 3, 0, 0, .null), (40, .ireturn, 1, 0, 0, .null), (41, .aload_n 0, 1, 0, 0, .null), (42, .instanceof 285, 3, 0, 0, .null), (45, .ireturn, 1, 0, 0, .null), (46, .aload_n 0, 1, 0, 0, .null), (47, .instanceof 287, 3, 0, 0, .null), (50, .ireturn, 1, 0, 0, .null), (51, .aload_n 0, 1, 0, 0, .null), (52, .instanceof 289, 3, 0, 0, .null), (55, .ireturn, 1, 0, 0, .null), (56, .aload_n 0, 1, 0, 0, .null), (57, .instanceof 291, 3, 0, 0, .null), (60, .ireturn, 1, 0, 0, .null), (61, .iconst 1, 1, 0, 0, .int 1), (62, .ireturn, 1, 0, 0, .null)]
theorem ok_Sc_isUnder : cd_Sc_isUnder.all (mm_k M_Sc_isUnder) = true := by decide +kernel
abbrev M_Sc_refusalOfExam : mm_M := (⟨"SchoolOnRaft", "refusalOfExam", "(II)I"⟩, prog_1_method_48_code, 3, (some .int))
def cd_Sc_refusalOfExam : List mm_E := [(0, .aload_n 0, 1, 0, 0, .null), (1, .iload_n 1, 1, 1, 0, .null), (2, .invokevirtual 105, 3, 0, 0, .null), (5, .ifCond .eq 10, 3, 0, 15, .null), (8, .iload_n 2, 1, 2, 0, .null), (9, .invokestatic 264, 3, 0, 0, .null), (12, .ifCond .ne 6, 3, 0, 18, .null), (15, .bipush (-2), 2, 0, 0, .int (-2)), (17, .ireturn, 1, 0, 0, .null), (18, .aload_n 0, 1, 0, 0, .null), (19, .getfield 56, 3, 11, 9, .null), (22, .iload_n 2, 1, 2, 0, .null), (23, .iaload, 1, 0, 0, .null), (24, .iconst (-1), 1, 0, 0, .int (-1)), (25, .if_icmp .ne 6, 3, 0, 31, .null), (28, .bipush (-11), 2, 0, 0, .int (-11)), (30, .ireturn, 1, 0, 0, .null), (31, .aload_n 0, 1, 0, 0, .null), (32, .getfield 53, 3, 11, 8, .null), (35, .iload_n 2, 1, 2, 0, .null), (36, .iaload, 1, 0, 0, .null), (37, .bipush 6, 2, 0, 0, .int 6), (39, .if_icmp .ne 7, 3, 0, 46, .null), (42, .iconst 0, 1, 0, 0, .int 0), (43, .goto 5, 3, 0, 48, .null), (46, .bipush (-2), 2, 0, 0, .int (-2)), (48, .ireturn, 1, 0, 0, .null)]
theorem ok_Sc_refusalOfExam : cd_Sc_refusalOfExam.all (mm_k M_Sc_refusalOfExam) = true := by decide +kernel
abbrev M_Sc_planOf : mm_M := (⟨"SchoolOnRaft", "planOf", "(I)[I"⟩, prog_1_method_49_code, 2, (some (.array .int)))
def cd_Sc_planOf : List mm_E := [(0, .iload_n 1, 1, 1, 0, .null), (1, .ifCond .ne 16, 3, 0, 17, .null), (4, .aload_n 0, 1, 0, 0, .null), (5, .getfield 10, 3, 11, 0, .null), (8, .getfield 65, 3, 9, 0, .null), (11, .getfield 175, 3, 0, 9, .null), (14, .goto 13, 3, 0, 27, .null), (17, .aload_n 0, 1, 0, 0, .null), (18, .getfield 10, 3, 11, 0, .null), (21, .getfield 65, 3, 9, 0, .null), (24, .getfield 293, 3, 0, 10, .null), (27, .areturn, 1, 0, 0, .null)]
theorem ok_Sc_planOf : cd_Sc_planOf.all (mm_k M_Sc_planOf) = true := by decide +kernel
abbrev M_Sc_bring : mm_M := (⟨"SchoolOnRaft", "bring", "(II)I"⟩, prog_1_method_50_code, 3, (some .int))
def cd_Sc_bring : List mm_E := [(0, .iload_n 1, 1, 1, 0, .null), (1, .ifCond .lt 41, 3, 0, 42, .null), (4, .iload_n 1, 1, 1, 0, .null), (5, .bipush 10, 2, 0, 0, .int 10), (7, .idiv, 1, 0, 0, .null), (8, .invokestatic 142, 3, 0, 0, .null), (11, .ifCond .eq 31, 3, 0, 42, .null), (14, .iload_n 1, 1, 1, 0, .null), (15, .bipush 10, 2, 0, 0, .int 10), (17, .irem, 1, 0, 0, .null), (18, .invokestatic 142, 3, 0, 0, .null), (21, .ifCond .eq 21, 3, 0, 42, .null), (24, .iload_n 1, 1, 1, 0, .null), (25, .bipush 10, 2, 0, 0, .int 10), (27, .idiv, 1, 0, 0, .null), (28, .iload_n 1, 1, 1, 0, .null), (29, .bipush 10, 2, 0, 0, .int 10), (31, .irem, 1, 0, 0, .null), (32, .if_icmp .gt 10, 3, 0, 42, .null), (35, .iload_n 2, 1, 2, 0, .null), (36, .invokestatic 280, 3, 0, 0, .null), (39, .ifCond .ne 6, 3, 0, 45, .null), (42, .bipush (-2), 2, 0, 0, .int (-2)), (44, .ireturn, 1, 0, 0, .null), (45, .aload_n 0, 1, 0, 0, .null), (46, .getfield 10, 3, 11, 0, .null), (49, .getfield 65, 3, 9, 0, .null), (52, .getfield 228, 3, 0, 1, .null), (55, .bipush 6, 2, 0, 0, .int 6), (57, .if_icmp .lt 6, 3, 0, 63, .null), (60, .bipush (-4), 2, 0, 0, .int (-4)), (62, .ireturn, 1, 0, 0, .null), (63, .aload_n 0, 1, 0, 0, .null), (64, .getfield 19, 3, 11, 1, .null), (67, .invokevirtual 83, 3, 0, 0, .null), (70, .aload_n 0, 1, 0, 0, .null), (71, .getfield 10, 3, 11, 0, .null), (74, .getfield 65, 3, 9, 0, .null), (77, .iload_n 1, 1, 1, 0, .null), (78, .bipush 10, 2, 0, 0, .int 10), (80, .idiv, 1, 0, 0, .null), (81, .iload_n 1, 1, 1, 0, .null), (82, .bipush 10, 2, 0, 0, .int 10), (84, .irem, 1, 0, 0, .null), (85, .iload_n 2, 1, 2, 0, .null), (86, .invokevirtual 296, 3, 0, 0, .null), (89, .ireturn, 1, 0, 0, .null)]
theorem ok_Sc_bring : cd_Sc_bring.all (mm_k M_Sc_bring) = true := by decide +kernel
abbrev M_Sc_trimmed : mm_M := (⟨"SchoolOnRaft", "trimmed", "(II)I"⟩, prog_1_method_51_code, 2, (some .int))
def cd_Sc_trimmed : List mm_E := [(0, .iload_n 0, 1, 0, 0, .null), (1, .ifCond .ne 8, 3, 0, 9, .null), (4, .iload_n 1, 1, 1, 0, .null), (5, .i2b, 1, 0, 0, .null), (6, .goto 14, 3, 0, 20, .null), (9, .iload_n 0, 1, 0, 0, .null), (10, .iconst 1, 1, 0, 0, .int 1), (11, .if_icmp .ne 8, 3, 0, 19, .null), (14, .iload_n 1, 1, 1, 0, .null), (15, .i2s, 1, 0, 0, .null), (16, .goto 4, 3, 0, 20, .null), (19, .iload_n 1, 1, 1, 0, .null), (20, .ireturn, 1, 0, 0, .null)]
theorem ok_Sc_trimmed : cd_Sc_trimmed.all (mm_k M_Sc_trimmed) = true := by decide +kernel
abbrev M_Sc_pointsOfAll : mm_M := (⟨"SchoolOnRaft", "pointsOfAll", "([I)I"⟩, prog_1_method_52_code, 4, (some .int))
def cd_Sc_pointsOfAll : List mm_E := [(0, .iconst 0, 1, 0, 0, .int 0), (1, .istore_n 2, 1, 2, 0, .null), (2, .iconst 0, 1, 0, 0, .int 0), (3, .istore_n 3, 1, 3, 0, .null), (4, .iload_n 3, 1, 3, 0, .null), (5, .aload_n 0, 1, 0, 0, .null), (6, .getfield 10, 3, 11, 0, .null), (9, .getfield 65, 3, 9, 0, .null), (12, .getfield 228, 3, 0, 1, .null), (15, .if_icmp .ge 21, 3, 0, 36, .null), (18, .iload_n 2, 1, 2, 0, .null), (19, .aload_n 0, 1, 0, 0, .null), (20, .getfield 10, 3, 11, 0, .null), (23, .iload_n 3, 1, 3, 0, .null), (24, .aload_n 1, 1, 1, 0, .null), (25, .invokevirtual 192, 3, 0, 0, .null), (28, .iadd, 1, 0, 0, .null), (29, .istore_n 2, 1, 2, 0, .null), (30, .iinc 3 1, 3, 3, 0, .int 1), (33, .goto (-29), 3, 0, 4, .null), (36, .iload_n 2, 1, 2, 0, .null), (37, .ireturn, 1, 0, 0, .null)]
theorem ok_Sc_pointsOfAll : cd_Sc_pointsOfAll.all (mm_k M_Sc_pointsOfAll) = true := by decide +kernel
abbrev M_Sc_pointsChanging : mm_M := (⟨"SchoolOnRaft", "pointsChanging", "(II)I"⟩, prog_1_method_53_code, 4, (some .int))
def cd_Sc_pointsChanging : List mm_E := [(0, .iconst 0, 1, 0, 0, .int 0), (1, .istore_n 3, 1, 3, 0, .null), (2, .iload_n 3, 1, 3, 0, .null), (3, .bipush 6, 2, 0, 0, .int 6), (5, .if_icmp .ge 47, 3, 0, 52, .null), (8, .aload_n 0, 1, 0, 0, .null), (9, .getfield 41, 3, 11, 5, .null), (12, .iload_n 3, 1, 3, 0, .null), (13, .iload_n 3, 1, 3, 0, .null), (14, .iload_n 2, 1, 2, 0, .null), (15, .if_icmp .gt 18, 3, 0, 33, .null), (18, .aload_n 0, 1, 0, 0, .null), (19, .getfield 10, 3, 11, 0, .null), (22, .getfield 65, 3, 9, 0, .null), (25, .getfield 175, 3, 0, 9, .null), (28, .iload_n 3, 1, 3, 0, .null), (29, .iaload, 1, 0, 0, .null), (30, .goto 15, 3, 0, 45, .null), (33, .aload_n 0, 1, 0, 0, .null), (34, .getfield 10, 3, 11, 0, .null), (37, .getfield 65, 3, 9, 0, .null), (40, .getfield 293, 3, 0, 10, .null), (43, .iload_n 3, 1, 3, 0, .null), (44, .iaload, 1, 0, 0, .null), (45, .iastore, 1, 0, 0, .null), (46, .iinc 3 1, 3, 3, 0, .int 1), (49, .goto (-47), 3, 0, 2, .null), (52, .aload_n 0, 1, 0, 0, .null), (53, .getfield 10, 3, 11, 0, .null), (56, .iload_n 1, 1, 1, 0, .null), (57, .aload_n 0, 1, 0, 0, .null), (58, .getfield 41, 3, 11, 5, .null), (61, .invokevirtual 192, 3, 0, 0, .null), (64, .ireturn, 1, 0, 0, .null)]
theorem ok_Sc_pointsChanging : cd_Sc_pointsChanging.all (mm_k M_Sc_pointsChanging) = true := by decide +kernel
abbrev M_Sc_costOf : mm_M := (⟨"SchoolOnRaft", "costOf", "(III)I"⟩, prog_1_method_54_code, 6, (some .int))
def cd_Sc_costOf : List mm_E := [(0, .iconst 0, 1, 0, 0, .int 0), (1, .istore 4, 2, 4, 0, .null), (3, .iload_n 2, 1, 2, 0, .null), (4, .istore 5, 2, 5, 0, .null), (6, .iload 5, 2, 5, 0, .null), (8, .aload_n 0, 1, 0, 0, .null), (9, .getfield 10, 3, 11, 0, .null), (12, .getfield 65, 3, 9, 0, .null), (15, .getfield 130, 3, 0, 6, .null), (18, .iload_n 1, 1, 1, 0, .null), (19, .iaload, 1, 0, 0, .null), (20, .if_icmp .ge 24, 3, 0, 44, .null), (23, .iload 4, 2, 4, 0, .null), (25, .aload_n 0, 1, 0, 0, .null), (26, .getfield 10, 3, 11, 0, .null), (29, .iload_n 1, 1, 1, 0, .null), (30, .iload 5, 2, 5, 0, .null), (32, .invokevirtual 299, 3, 0, 0, .null), (35, .iadd, 1, 0, 0, .null), (36, .istore 4, 2, 4, 0, .null), (38, .iinc 5 1, 3, 5, 0, .int 1), (41, .goto (-35), 3, 0, 6, .null), (44, .aload_n 0, 1, 0, 0, .null), (45, .getfield 10, 3, 11, 0, .null), (48, .getfield 65, 3, 9, 0, .null), (51, .getfield 133, 3, 0, 7, .null), (54, .iload_n 1, 1, 1, 0, .null), (55, .iaload, 1, 0, 0, .null), (56, .iconst 1, 1, 0, 0, .int 1), (57, .iadd, 1, 0, 0, .null), (58, .istore 5, 2, 5, 0, .null), (60, .iload 5, 2, 5, 0, .null), (62, .iload_n 3, 1, 3, 0, .null), (63, .if_icmp .gt 24, 3, 0, 87, .null), (66, .iload 4, 2, 4, 0, .null), (68, .aload_n 0, 1, 0, 0, .null), (69, .getfield 10, 3, 11, 0, .null), (72, .iload_n 1, 1, 1, 0, .null), (73, .iload 5, 2, 5, 0, .null), (75, .invokevirtual 299, 3, 0, 0, .null), (78, .iadd, 1, 0, 0, .null), (79, .istore 4, 2, 4, 0, .null), (81, .iinc 5 1, 3, 5, 0, .int 1), (84, .goto (-24), 3, 0, 60, .null), (87, .iload 4, 2, 4, 0, .null), (89, .ireturn, 1, 0, 0, .null)]
theorem ok_Sc_costOf : cd_Sc_costOf.all (mm_k M_Sc_costOf) = true := by decide +kernel
abbrev M_Sc_ownedAtEnd : mm_M := (⟨"SchoolOnRaft", "ownedAtEnd", "(I[I)I"⟩, prog_1_method_55_code, 4, (some .int))
def cd_Sc_ownedAtEnd : List mm_E := [(0, .aload_n 0, 1, 0, 0, .null), (1, .getfield 10, 3, 11, 0, .null), (4, .iload_n 1, 1, 1, 0, .null), (5, .aload_n 0, 1, 0, 0, .null), (6, .getfield 10, 3, 11, 0, .null), (9, .getfield 65, 3, 9, 0, .null), (12, .getfield 130, 3, 0, 6, .null), (15, .iload_n 1, 1, 1, 0, .null), (16, .iaload, 1, 0, 0, .null), (17, .aload_n 0, 1, 0, 0, .null), (18, .getfield 10, 3, 11, 0, .null), (21, .getfield 65, 3, 9, 0, .null), (24, .getfield 133, 3, 0, 7, .null), (27, .iload_n 1, 1, 1, 0, .null), (28, .iaload, 1, 0, 0, .null), (29, .aload_n 2, 1, 2, 0, .null), (30, .invokevirtual 178, 3, 0, 0, .null), (33, .istore_n 3, 1, 3, 0, .null), (34, .aload_n 0, 1, 0, 0, .null), (35, .getfield 10, 3, 11, 0, .null), (38, .iload_n 3, 1, 3, 0, .null), (39, .iconst 5, 1, 0, 0, .int 5), (40, .invokevirtual 212, 3, 0, 0, .null), (43, .ireturn, 1, 0, 0, .null)]
theorem ok_Sc_ownedAtEnd : cd_Sc_ownedAtEnd.all (mm_k M_Sc_ownedAtEnd) = true := by decide +kernel
abbrev M_Sc_endsOf : mm_M := (⟨"SchoolOnRaft", "endsOf", "(I)I"⟩, prog_1_method_56_code, 4, (some .int))
def cd_Sc_endsOf : List mm_E := [(0, .iconst 0, 1, 0, 0, .int 0), (1, .istore_n 2, 1, 2, 0, .null), (2, .iconst 0, 1, 0, 0, .int 0), (3, .istore_n 3, 1, 3, 0, .null), (4, .iload_n 3, 1, 3, 0, .null), (5, .bipush 6, 2, 0, 0, .int 6), (7, .if_icmp .ge 26, 3, 0, 33, .null), (10, .iload_n 1, 1, 1, 0, .null), (11, .iload_n 3, 1, 3, 0, .null), (12, .ishr, 1, 0, 0, .null), (13, .iconst 1, 1, 0, 0, .int 1), (14, .iand, 1, 0, 0, .null), (15, .ifCond .eq 12, 3, 0, 27, .null), (18, .iload_n 2, 1, 2, 0, .null), (19, .aload_n 0, 1, 0, 0, .null), (20, .getfield 45, 3, 11, 6, .null), (23, .iload_n 3, 1, 3, 0, .null), (24, .iaload, 1, 0, 0, .null), (25, .ior, 1, 0, 0, .null), (26, .istore_n 2, 1, 2, 0, .null), (27, .iinc 3 1, 3, 3, 0, .int 1), (30, .goto (-26), 3, 0, 4, .null), (33, .iload_n 2, 1, 2, 0, .null), (34, .ireturn, 1, 0, 0, .null)]
theorem ok_Sc_endsOf : cd_Sc_endsOf.all (mm_k M_Sc_endsOf) = true := by decide +kernel
abbrev M_Sc_whoHave : mm_M := (⟨"SchoolOnRaft", "whoHave", "(I[I)I"⟩, prog_1_method_57_code, 5, (some .int))
def cd_Sc_whoHave : List mm_E := [(0, .iconst 0, 1, 0, 0, .int 0), (1, .istore_n 3, 1, 3, 0, .null), (2, .iconst 0, 1, 0, 0, .int 0), (3, .istore 4, 2, 4, 0, .null), (5, .iload 4, 2, 4, 0, .null), (7, .aload_n 0, 1, 0, 0, .null), (8, .getfield 10, 3, 11, 0, .null), (11, .getfield 65, 3, 9, 0, .null), (14, .getfield 228, 3, 0, 1, .null), (17, .if_icmp .ge 30, 3, 0, 47, .null), (20, .aload_n 0, 1, 0, 0, .null), (21, .iload 4, 2, 4, 0, .null), (23, .aload_n 2, 1, 2, 0, .null), (24, .invokevirtual 231, 3, 0, 0, .null), (27, .iload_n 1, 1, 1, 0, .null), (28, .ishr, 1, 0, 0, .null), (29, .iconst 1, 1, 0, 0, .int 1), (30, .iand, 1, 0, 0, .null), (31, .ifCond .eq 10, 3, 0, 41, .null), (34, .iload_n 3, 1, 3, 0, .null), (35, .iconst 1, 1, 0, 0, .int 1), (36, .iload 4, 2, 4, 0, .null), (38, .ishl, 1, 0, 0, .null), (39, .ior, 1, 0, 0, .null), (40, .istore_n 3, 1, 3, 0, .null), (41, .iinc 4 1, 3, 4, 0, .int 1), (44, .goto (-39), 3, 0, 5, .null), (47, .iload_n 3, 1, 3, 0, .null), (48, .ireturn, 1, 0, 0, .null)]
theorem ok_Sc_whoHave : cd_Sc_whoHave.all (mm_k M_Sc_whoHave) = true := by decide +kernel
abbrev M_Sc_draw : mm_M := (⟨"SchoolOnRaft", "draw", "(II)V"⟩, prog_1_method_58_code, 5, none)
def cd_Sc_draw : List mm_E := [(0, .iload_n 1, 1, 1, 0, .null), (1, .istore_n 3, 1, 3, 0, .null), (2, .iconst 0, 1, 0, 0, .int 0), (3, .istore 4, 2, 4, 0, .null), (5, .iload 4, 2, 4, 0, .null), (7, .bipush 6, 2, 0, 0, .int 6), (9, .if_icmp .ge 54, 3, 0, 63, .null), (12, .iload_n 3, 1, 3, 0, .null), (13, .ldc_w 302, 3, 0, 0, .int 1103515245), (16, .imul, 1, 0, 0, .null), (17, .sipush 12345, 3, 0, 0, .int 12345), (20, .iadd, 1, 0, 0, .null), (21, .istore_n 3, 1, 3, 0, .null), (22, .aload_n 0, 1, 0, 0, .null), (23, .getfield 41, 3, 11, 5, .null), (26, .iload 4, 2, 4, 0, .null), (28, .iload_n 3, 1, 3, 0, .null), (29, .bipush 11, 2, 0, 0, .int 11), (31, .iushr, 1, 0, 0, .null), (32, .bipush 10, 2, 0, 0, .int 10), (34, .irem, 1, 0, 0, .null), (35, .iload_n 2, 1, 2, 0, .null), (36, .if_icmp .ge 7, 3, 0, 43, .null), (39, .iconst (-1), 1, 0, 0, .int (-1)), (40, .goto 16, 3, 0, 56, .null), (43, .aload_n 0, 1, 0, 0, .null), (44, .getfield 10, 3, 11, 0, .null), (47, .getfield 65, 3, 9, 0, .null), (50, .getfield 175, 3, 0, 9, .null), (53, .iload 4, 2, 4, 0, .null), (55, .iaload, 1, 0, 0, .null), (56, .iastore, 1, 0, 0, .null), (57, .iinc 4 1, 3, 4, 0, .int 1), (60, .goto (-55), 3, 0, 5, .null), (63, .return_, 1, 0, 0, .null)]
theorem ok_Sc_draw : cd_Sc_draw.all (mm_k M_Sc_draw) = true := by decide +kernel
abbrev M_Sc_commonDivisor : mm_M := (⟨"SchoolOnRaft", "commonDivisor", "(II)I"⟩, prog_1_method_59_code, 3, (some .int))
def cd_Sc_commonDivisor : List mm_E := [(0, .iload_n 1, 1, 1, 0, .null), (1, .istore_n 2, 1, 2, 0, .null), (2, .iload_n 2, 1, 2, 0, .null), (3, .iconst 1, 1, 0, 0, .int 1), (4, .if_icmp .le 23, 3, 0, 27, .null), (7, .iload_n 0, 1, 0, 0, .null), (8, .iload_n 2, 1, 2, 0, .null), (9, .irem, 1, 0, 0, .null), (10, .ifCond .ne 11, 3, 0, 21, .null), (13, .iload_n 1, 1, 1, 0, .null), (14, .iload_n 2, 1, 2, 0, .null), (15, .irem, 1, 0, 0, .null), (16, .ifCond .ne 5, 3, 0, 21, .null), (19, .iload_n 2, 1, 2, 0, .null), (20, .ireturn, 1, 0, 0, .null), (21, .iinc 2 (-1), 3, 2, 0, .int (-1)), (24, .goto (-22), 3, 0, 2, .null), (27, .iconst 1, 1, 0, 0, .int 1), (28, .ireturn, 1, 0, 0, .null)]
theorem ok_Sc_commonDivisor : cd_Sc_commonDivisor.all (mm_k M_Sc_commonDivisor) = true := by decide +kernel
abbrev M_Sc_bendsWithLesson : mm_M := (⟨"SchoolOnRaft", "bendsWithLesson", "([I)I"⟩, prog_1_method_60_code, 3, (some .int))
def cd_Sc_bendsWithLesson : List mm_E := [(0, .iconst 0, 1, 0, 0, .int 0), (1, .istore_n 1, 1, 1, 0, .null), (2, .iconst 0, 1, 0, 0, .int 0), (3, .istore_n 2, 1, 2, 0, .null), (4, .iload_n 2, 1, 2, 0, .null), (5, .bipush 6, 2, 0, 0, .int 6), (7, .if_icmp .ge 24, 3, 0, 31, .null), (10, .aload_n 0, 1, 0, 0, .null), (11, .iload_n 2, 1, 2, 0, .null), (12, .iaload, 1, 0, 0, .null), (13, .iconst (-1), 1, 0, 0, .int (-1)), (14, .if_icmp .ne 7, 3, 0, 21, .null), (17, .iload_n 1, 1, 1, 0, .null), (18, .goto 6, 3, 0, 24, .null), (21, .iload_n 1, 1, 1, 0, .null), (22, .iconst 1, 1, 0, 0, .int 1), (23, .iadd, 1, 0, 0, .null), (24, .istore_n 1, 1, 1, 0, .null), (25, .iinc 2 1, 3, 2, 0, .int 1), (28, .goto (-24), 3, 0, 4, .null), (31, .iload_n 1, 1, 1, 0, .null), (32, .ireturn, 1, 0, 0, .null)]
theorem ok_Sc_bendsWithLesson : cd_Sc_bendsWithLesson.all (mm_k M_Sc_bendsWithLesson) = true := by decide +kernel
end
section
/-! ===== code, written by program out of the listing ===== -/
abbrev M_Mo_in : mm_M := (⟨"SchoolOnRaftModel", "in", "(JJJ)Z"⟩, prog_14_method_2_code, 6, (some .boolean))
def cd_Mo_in : List mm_E := [(0, .lload_n 0, 1, 0, 0, .null), (1, .lload_n 2, 1, 2, 0, .null), (2, .lcmp, 1, 0, 0, .null), (3, .ifCond .lt 14, 3, 0, 17, .null), (6, .lload_n 0, 1, 0, 0, .null), (7, .lload 4, 2, 4, 0, .null), (9, .lcmp, 1, 0, 0, .null), (10, .ifCond .gt 7, 3, 0, 17, .null), (13, .iconst 1, 1, 0, 0, .int 1), (14, .goto 4, 3, 0, 18, .null), (17, .iconst 0, 1, 0, 0, .int 0), (18, .ireturn, 1, 0, 0, .null)]
theorem ok_Mo_in : cd_Mo_in.all (mm_k M_Mo_in) = true := by decide +kernel
abbrev M_Mo_within : mm_M := (⟨"SchoolOnRaftModel", "within", "(III)I"⟩, prog_14_method_3_code, 3, (some .int))
def cd_Mo_within : List mm_E := [(0, .iload_n 0, 1, 0, 0, .null), (1, .iload_n 1, 1, 1, 0, .null), (2, .if_icmp .ge 7, 3, 0, 9, .null), (5, .iload_n 1, 1, 1, 0, .null), (6, .goto 13, 3, 0, 19, .null), (9, .iload_n 0, 1, 0, 0, .null), (10, .iload_n 2, 1, 2, 0, .null), (11, .if_icmp .le 7, 3, 0, 18, .null), (14, .iload_n 2, 1, 2, 0, .null), (15, .goto 4, 3, 0, 19, .null), (18, .iload_n 0, 1, 0, 0, .null), (19, .ireturn, 1, 0, 0, .null)]
theorem ok_Mo_within : cd_Mo_within.all (mm_k M_Mo_within) = true := by decide +kernel
abbrev M_Mo_bitsOf : mm_M := (⟨"SchoolOnRaftModel", "bitsOf", "(I)I"⟩, prog_14_method_4_code, 3, (some .int))
def cd_Mo_bitsOf : List mm_E := [(0, .iconst 0, 1, 0, 0, .int 0), (1, .istore_n 1, 1, 1, 0, .null), (2, .iload_n 0, 1, 0, 0, .null), (3, .istore_n 2, 1, 2, 0, .null), (4, .iload_n 2, 1, 2, 0, .null), (5, .ifCond .eq 15, 3, 0, 20, .null), (8, .iinc 1 1, 3, 1, 0, .int 1), (11, .iload_n 2, 1, 2, 0, .null), (12, .iload_n 2, 1, 2, 0, .null), (13, .iconst 1, 1, 0, 0, .int 1), (14, .isub, 1, 0, 0, .null), (15, .iand, 1, 0, 0, .null), (16, .istore_n 2, 1, 2, 0, .null), (17, .goto (-13), 3, 0, 4, .null), (20, .iload_n 1, 1, 1, 0, .null), (21, .ireturn, 1, 0, 0, .null)]
theorem ok_Mo_bitsOf : cd_Mo_bitsOf.all (mm_k M_Mo_bitsOf) = true := by decide +kernel
abbrev M_Mo_init : mm_M := (⟨"SchoolOnRaftModel", "<init>", "()V"⟩, prog_14_method_5_code, 2, none)
def cd_Mo_init : List mm_E := [(0, .aload_n 0, 1, 0, 0, .null), (1, .invokespecial 7, 3, 0, 0, .null), (4, .aload_n 0, 1, 0, 0, .null), (5, .sipush 960, 3, 0, 0, .int 960), (8, .newarray .int, 2, 0, 0, .null), (10, .putfield 13, 3, 12, 1, .null), (13, .aload_n 0, 1, 0, 0, .null), (14, .bipush 6, 2, 0, 0, .int 6), (16, .newarray .int, 2, 0, 0, .null), (18, .putfield 17, 3, 12, 2, .null), (21, .aload_n 0, 1, 0, 0, .null), (22, .sipush 160, 3, 0, 0, .int 160), (25, .newarray .int, 2, 0, 0, .null), (27, .putfield 20, 3, 12, 5, .null), (30, .aload_n 0, 1, 0, 0, .null), (31, .iconst 4, 1, 0, 0, .int 4), (32, .newarray .int, 2, 0, 0, .null), (34, .putfield 23, 3, 12, 7, .null), (37, .aload_n 0, 1, 0, 0, .null), (38, .iconst 4, 1, 0, 0, .int 4), (39, .newarray .int, 2, 0, 0, .null), (41, .putfield 26, 3, 12, 8, .null), (44, .aload_n 0, 1, 0, 0, .null), (45, .iconst 4, 1, 0, 0, .int 4), (46, .newarray .int, 2, 0, 0, .null), (48, .putfield 29, 3, 12, 9, .null), (51, .aload_n 0, 1, 0, 0, .null), (52, .bipush 6, 2, 0, 0, .int 6), (54, .newarray .int, 2, 0, 0, .null), (56, .putfield 32, 3, 12, 11, .null), (59, .aload_n 0, 1, 0, 0, .null), (60, .bipush 6, 2, 0, 0, .int 6), (62, .newarray .int, 2, 0, 0, .null), (64, .putfield 35, 3, 12, 12, .null), (67, .aload_n 0, 1, 0, 0, .null), (68, .bipush 6, 2, 0, 0, .int 6), (70, .newarray .int, 2, 0, 0, .null), (72, .putfield 38, 3, 12, 13, .null), (75, .aload_n 0, 1, 0, 0, .null), (76, .bipush 12, 2, 0, 0, .int 12), (78, .newarray .int, 2, 0, 0, .null), (80, .putfield 41, 3, 12, 15, .null), (83, .aload_n 0, 1, 0, 0, .null), (84, .sipush 5040, 3, 0, 0, .int 5040), (87, .newarray .int, 2, 0, 0, .null), (89, .putfield 44, 3, 12, 31, .null), (92, .aload_n 0, 1, 0, 0, .null), (93, .sipush 840, 3, 0, 0, .int 840), (96, .newarray .int, 2, 0, 0, .null), (98, .putfield 47, 3, 12, 32, .null), (101, .aload_n 0, 1, 0, 0, .null), (102, .bipush 28, 2, 0, 0, .int 28), (104, .newarray .int, 2, 0, 0, .null), (106, .putfield 50, 3, 12, 33, .null), (109, .aload_n 0, 1, 0, 0, .null), (110, .bipush 28, 2, 0, 0, .int 28), (112, .newarray .int, 2, 0, 0, .null), (114, .putfield 53, 3, 12, 34, .null), (117, .aload_n 0, 1, 0, 0, .null), (118, .bipush 6, 2, 0, 0, .int 6), (120, .newarray .int, 2, 0, 0, .null), (122, .putfield 56, 3, 12, 35, .null), (125, .aload_n 0, 1, 0, 0, .null), (126, .bipush 6, 2, 0, 0, .int 6), (128, .newarray .int, 2, 0, 0, .null), (130, .putfield 59, 3, 12, 36, .null), (133, .aload_n 0, 1, 0, 0, .null), (134, .sipush 15625, 3, 0, 0, .int 15625), (137, .newarray .int, 2, 0, 0, .null), (139, .putfield 62, 3, 12, 37, .null), (142, .aload_n 0, 1, 0, 0, .null), (143, .bipush 6, 2, 0, 0, .int 6), (145, .newarray .int, 2, 0, 0, .null), (147, .putfield 65, 3, 12, 38, .null), (150, .aload_n 0, 1, 0, 0, .null), (151, .bipush 6, 2, 0, 0, .int 6), (153, .newarray .int, 2, 0, 0, .null), (155, .putfield 68, 3, 12, 40, .null), (158, .aload_n 0, 1, 0, 0, .null), (159, .bipush 38, 2, 0, 0, .int 38), (161, .newarray .int, 2, 0, 0, .null), (163, .putfield 71, 3, 12, 41, .null), (166, .aload_n 0, 1, 0, 0, .null), (167, .iconst (-1), 1, 0, 0, .int (-1)), (168, .putfield 74, 3, 12, 42, .null), (171, .aload_n 0, 1, 0, 0, .null), (172, .iconst 4, 1, 0, 0, .int 4), (173, .newarray .boolean, 2, 0, 0, .null), (175, .putfield 77, 3, 12, 45, .null), (178, .aload_n 0, 1, 0, 0, .null), (179, .iconst 4, 1, 0, 0, .int 4), (180, .newarray .int, 2, 0, 0, .null), (182, .putfield 81, 3, 12, 46, .null), (185, .aload_n 0, 1, 0, 0, .null), (186, .iconst 4, 1, 0, 0, .int 4), (187, .newarray .int, 2, 0, 0, .null), (189, .putfield 84, 3, 12, 47, .null), (192, .aload_n 0, 1, 0, 0, .null), (193, .sipush 160, 3, 0, 0, .int 160), (196, .newarray .int, 2, 0, 0, .null), (198, .putfield 87, 3, 12, 48, .null), (201, .aload_n 0, 1, 0, 0, .null), (202, .iconst 0, 1, 0, 0, .int 0), (203, .bipush 104, 2, 0, 0, .int 104), (205, .bipush 101, 2, 0, 0, .int 101), (207, .bipush 97, 2, 0, 0, .int 97), (209, .bipush 114, 2, 0, 0, .int 114), (211, .bipush 115, 2, 0, 0, .int 115), (213, .bipush 32, 2, 0, 0, .int 32), (215, .bipush 49, 2, 0, 0, .int 49), (217, .bipush 32, 2, 0, 0, .int 32), (219, .invokevirtual 90, 3, 0, 0, .null), (222, .aload_n 0, 1, 0, 0, .null), (223, .bipush 8, 2, 0, 0, .int 8), (225, .bipush 59, 2, 0, 0, .int 59), (227, .bipush 32, 2, 0, 0, .int 32), (229, .bipush 119, 2, 0, 0, .int 119), (231, .bipush 111, 2, 0, 0, .int 111), (233, .bipush 114, 2, 0, 0, .int 114), (235, .bipush 116, 2, 0, 0, .int 116), (237, .bipush 104, 2, 0, 0, .int 104), (239, .bipush 32, 2, 0, 0, .int 32), (241, .invokevirtual 90, 3, 0, 0, .null), (244, .aload_n 0, 1, 0, 0, .null), (245, .bipush 16, 2, 0, 0, .int 16), (247, .bipush 48, 2, 0, 0, .int 48), (249, .bipush 32, 2, 0, 0, .int 32), (251, .bipush 59, 2, 0, 0, .int 59), (253, .bipush 32, 2, 0, 0, .int 32), (255, .bipush 114, 2, 0, 0, .int 114), (257, .bipush 117, 2, 0, 0, .int 117), (259, .bipush 110, 2, 0, 0, .int 110), (261, .bipush 115, 2, 0, 0, .int 115), (263, .invokevirtual 90, 3, 0, 0, .null), (266, .aload_n 0, 1, 0, 0, .null), (267, .bipush 24, 2, 0, 0, .int 24), (269, .bipush 32, 2, 0, 0, .int 32), (271, .bipush 49, 2, 0, 0, .int 49), (273, .bipush 32, 2, 0, 0, .int 32), (275, .bipush 59, 2, 0, 0, .int 59), (277, .bipush 32, 2, 0, 0, .int 32), (279, .bipush 32, 2, 0, 0, .int 32), (281, .bipush 32, 2, 0, 0, .int 32), (283, .bipush 32, 2, 0, 0, .int 32), (285, .invokevirtual 90, 3, 0, 0, .null), (288, .aload_n 0, 1, 0, 0, .null), (289, .getfield 17, 3, 12, 2, .null), (292, .iconst 0, 1, 0, 0, .int 0), (293, .bipush 32, 2, 0, 0, .int 32), (295, .iastore, 1, 0, 0, .null), (296, .aload_n 0, 1, 0, 0, .null), (297, .iconst 1, 1, 0, 0, .int 1), (298, .putfield 94, 3, 12, 3, .null), (301, .iconst 0, 1, 0, 0, .int 0), (302, .istore_n 1, 1, 1, 0, .null), (303, .iload_n 1, 1, 1, 0, .null), (304, .bipush 12, 2, 0, 0, .int 12), (306, .if_icmp .ge 16, 3, 0, 322, .null), (309, .aload_n 0, 1, 0, 0, .null), (310, .getfield 41, 3, 12, 15, .null), (313, .iload_n 1, 1, 1, 0, .null), (314, .iconst (-1), 1, 0, 0, .int (-1)), (315, .iastore, 1, 0, 0, .null), (316, .iinc 1 1, 3, 1, 0, .int 1), (319, .goto (-16), 3, 0, 303, .null), (322, .return_, 1, 0, 0, .null)]
theorem ok_Mo_init : cd_Mo_init.all (mm_k M_Mo_init) = true := by decide +kernel
abbrev M_Mo_spell : mm_M := (⟨"SchoolOnRaftModel", "spell", "(IIIIIIIII)V"⟩, prog_14_method_6_code, 10, none)
def cd_Mo_spell : List mm_E := [(0, .aload_n 0, 1, 0, 0, .null), (1, .getfield 13, 3, 12, 1, .null), (4, .iload_n 1, 1, 1, 0, .null), (5, .iload_n 2, 1, 2, 0, .null), (6, .iastore, 1, 0, 0, .null), (7, .aload_n 0, 1, 0, 0, .null), (8, .getfield 13, 3, 12, 1, .null), (11, .iload_n 1, 1, 1, 0, .null), (12, .iconst 1, 1, 0, 0, .int 1), (13, .iadd, 1, 0, 0, .null), (14, .iload_n 3, 1, 3, 0, .null), (15, .iastore, 1, 0, 0, .null), (16, .aload_n 0, 1, 0, 0, .null), (17, .getfield 13, 3, 12, 1, .null), (20, .iload_n 1, 1, 1, 0, .null), (21, .iconst 2, 1, 0, 0, .int 2), (22, .iadd, 1, 0, 0, .null), (23, .iload 4, 2, 4, 0, .null), (25, .iastore, 1, 0, 0, .null), (26, .aload_n 0, 1, 0, 0, .null), (27, .getfield 13, 3, 12, 1, .null), (30, .iload_n 1, 1, 1, 0, .null), (31, .iconst 3, 1, 0, 0, .int 3), (32, .iadd, 1, 0, 0, .null), (33, .iload 5, 2, 5, 0, .null), (35, .iastore, 1, 0, 0, .null), (36, .aload_n 0, 1, 0, 0, .null), (37, .getfield 13, 3, 12, 1, .null), (40, .iload_n 1, 1, 1, 0, .null), (41, .iconst 4, 1, 0, 0, .int 4), (42, .iadd, 1, 0, 0, .null), (43, .iload 6, 2, 6, 0, .null), (45, .iastore, 1, 0, 0, .null), (46, .aload_n 0, 1, 0, 0, .null), (47, .getfield 13, 3, 12, 1, .null), (50, .iload_n 1, 1, 1, 0, .null), (51, .iconst 5, 1, 0, 0, .int 5), (52, .iadd, 1, 0, 0, .null), (53, .iload 7, 2, 7, 0, .null), (55, .iastore, 1, 0, 0, .null), (56, .aload_n 0, 1, 0, 0, .null), (57, .getfield 13, 3, 12, 1, .null), (60, .iload_n 1, 1, 1, 0, .null), (61, .bipush 6, 2, 0, 0, .int 6), (63, .iadd, 1, 0, 0, .null), (64, .iload 8, 2, 8, 0, .null), (66, .iastore, 1, 0, 0, .null), (67, .aload_n 0, 1, 0, 0, .null), (68, .getfield 13, 3, 12, 1, .null), (71, .iload_n 1, 1, 1, 0, .null), (72, .bipush 7, 2, 0, 0, .int 7), (74, .iadd, 1, 0, 0, .null), (75, .iload 9, 2, 9, 0, .null), (77, .iastore, 1, 0, 0, .null), (78, .return_, 1, 0, 0, .null)]
theorem ok_Mo_spell : cd_Mo_spell.all (mm_k M_Mo_spell) = true := by decide +kernel
abbrev M_Mo_isLesson : mm_M := (⟨"SchoolOnRaftModel", "isLesson", "(I)Z"⟩, prog_14_method_7_code, 2, (some .boolean))
def cd_Mo_isLesson : List mm_E := [(0, .iload_n 1, 1, 1, 0, .null), (1, .i2l, 1, 0, 0, .null), (2, .lconst 0, 1, 0, 0, .long 0), (3, .aload_n 0, 1, 0, 0, .null), (4, .getfield 97, 3, 12, 10, .null), (7, .iconst 1, 1, 0, 0, .int 1), (8, .isub, 1, 0, 0, .null), (9, .i2l, 1, 0, 0, .null), (10, .invokestatic 100, 3, 0, 0, .null), (13, .ireturn, 1, 0, 0, .null)]
theorem ok_Mo_isLesson : cd_Mo_isLesson.all (mm_k M_Mo_isLesson) = true := by decide +kernel
abbrev M_Mo_isChild : mm_M := (⟨"SchoolOnRaftModel", "isChild", "(I)Z"⟩, prog_14_method_8_code, 2, (some .boolean))
def cd_Mo_isChild : List mm_E := [(0, .iload_n 1, 1, 1, 0, .null), (1, .i2l, 1, 0, 0, .null), (2, .lconst 0, 1, 0, 0, .long 0), (3, .aload_n 0, 1, 0, 0, .null), (4, .getfield 104, 3, 12, 14, .null), (7, .iconst 1, 1, 0, 0, .int 1), (8, .isub, 1, 0, 0, .null), (9, .i2l, 1, 0, 0, .null), (10, .invokestatic 100, 3, 0, 0, .null), (13, .ireturn, 1, 0, 0, .null)]
theorem ok_Mo_isChild : cd_Mo_isChild.all (mm_k M_Mo_isChild) = true := by decide +kernel
abbrev M_Mo_lesson : mm_M := (⟨"SchoolOnRaftModel", "lesson", "(III)I"⟩, prog_14_method_9_code, 4, (some .int))
def cd_Mo_lesson : List mm_E := [(0, .iload_n 1, 1, 1, 0, .null), (1, .i2l, 1, 0, 0, .null), (2, .lconst 0, 1, 0, 0, .long 0), (3, .ldc2_w 107, 3, 0, 0, .long 5), (6, .invokestatic 100, 3, 0, 0, .null), (9, .ifCond .eq 33, 3, 0, 42, .null), (12, .iload_n 2, 1, 2, 0, .null), (13, .i2l, 1, 0, 0, .null), (14, .lconst 0, 1, 0, 0, .long 0), (15, .ldc2_w 109, 3, 0, 0, .long 9), (18, .invokestatic 100, 3, 0, 0, .null), (21, .ifCond .eq 21, 3, 0, 42, .null), (24, .iload_n 3, 1, 3, 0, .null), (25, .i2l, 1, 0, 0, .null), (26, .lconst 0, 1, 0, 0, .long 0), (27, .iconst 1, 1, 0, 0, .int 1), (28, .aload_n 0, 1, 0, 0, .null), (29, .getfield 97, 3, 12, 10, .null), (32, .ishl, 1, 0, 0, .null), (33, .iconst 1, 1, 0, 0, .int 1), (34, .isub, 1, 0, 0, .null), (35, .i2l, 1, 0, 0, .null), (36, .invokestatic 100, 3, 0, 0, .null), (39, .ifCond .ne 6, 3, 0, 45, .null), (42, .bipush (-2), 2, 0, 0, .int (-2)), (44, .ireturn, 1, 0, 0, .null), (45, .aload_n 0, 1, 0, 0, .null), (46, .getfield 97, 3, 12, 10, .null), (49, .iconst 4, 1, 0, 0, .int 4), (50, .if_icmp .ne 6, 3, 0, 56, .null), (53, .bipush (-4), 2, 0, 0, .int (-4)), (55, .ireturn, 1, 0, 0, .null), (56, .aload_n 0, 1, 0, 0, .null), (57, .getfield 23, 3, 12, 7, .null), (60, .aload_n 0, 1, 0, 0, .null), (61, .getfield 97, 3, 12, 10, .null), (64, .iload_n 1, 1, 1, 0, .null), (65, .iastore, 1, 0, 0, .null), (66, .aload_n 0, 1, 0, 0, .null), (67, .getfield 26, 3, 12, 8, .null), (70, .aload_n 0, 1, 0, 0, .null), (71, .getfield 97, 3, 12, 10, .null), (74, .iload_n 2, 1, 2, 0, .null), (75, .iastore, 1, 0, 0, .null), (76, .aload_n 0, 1, 0, 0, .null), (77, .getfield 29, 3, 12, 9, .null), (80, .aload_n 0, 1, 0, 0, .null), (81, .getfield 97, 3, 12, 10, .null), (84, .iload_n 3, 1, 3, 0, .null), (85, .iastore, 1, 0, 0, .null), (86, .aload_n 0, 1, 0, 0, .null), (87, .dup, 1, 0, 0, .null), (88, .getfield 97, 3, 12, 10, .null), (91, .iconst 1, 1, 0, 0, .int 1), (92, .iadd, 1, 0, 0, .null), (93, .putfield 97, 3, 12, 10, .null), (96, .aload_n 0, 1, 0, 0, .null), (97, .getfield 97, 3, 12, 10, .null), (100, .iconst 1, 1, 0, 0, .int 1), (101, .isub, 1, 0, 0, .null), (102, .ireturn, 1, 0, 0, .null)]
theorem ok_Mo_lesson : cd_Mo_lesson.all (mm_k M_Mo_lesson) = true := by decide +kernel
abbrev M_Mo_child : mm_M := (⟨"SchoolOnRaftModel", "child", "(II)I"⟩, prog_14_method_10_code, 3, (some .int))
def cd_Mo_child : List mm_E := [(0, .iload_n 1, 1, 1, 0, .null), (1, .i2l, 1, 0, 0, .null), (2, .lconst 0, 1, 0, 0, .long 0), (3, .ldc2_w 111, 3, 0, 0, .long 99), (6, .invokestatic 100, 3, 0, 0, .null), (9, .ifCond .eq 37, 3, 0, 46, .null), (12, .iload_n 1, 1, 1, 0, .null), (13, .bipush 10, 2, 0, 0, .int 10), (15, .idiv, 1, 0, 0, .null), (16, .iload_n 1, 1, 1, 0, .null), (17, .bipush 10, 2, 0, 0, .int 10), (19, .irem, 1, 0, 0, .null), (20, .if_icmp .gt 26, 3, 0, 46, .null), (23, .iload_n 1, 1, 1, 0, .null), (24, .bipush 10, 2, 0, 0, .int 10), (26, .irem, 1, 0, 0, .null), (27, .bipush 6, 2, 0, 0, .int 6), (29, .if_icmp .ge 17, 3, 0, 46, .null), (32, .iload_n 2, 1, 2, 0, .null), (33, .i2l, 1, 0, 0, .null), (34, .ldc2_w 107, 3, 0, 0, .long 5), (37, .ldc2_w 113, 3, 0, 0, .long 14), (40, .invokestatic 100, 3, 0, 0, .null), (43, .ifCond .ne 6, 3, 0, 49, .null), (46, .bipush (-2), 2, 0, 0, .int (-2)), (48, .ireturn, 1, 0, 0, .null), (49, .aload_n 0, 1, 0, 0, .null), (50, .getfield 104, 3, 12, 14, .null), (53, .bipush 6, 2, 0, 0, .int 6), (55, .if_icmp .ne 6, 3, 0, 61, .null), (58, .bipush (-4), 2, 0, 0, .int (-4)), (60, .ireturn, 1, 0, 0, .null), (61, .aload_n 0, 1, 0, 0, .null), (62, .getfield 32, 3, 12, 11, .null), (65, .aload_n 0, 1, 0, 0, .null), (66, .getfield 104, 3, 12, 14, .null), (69, .iload_n 1, 1, 1, 0, .null), (70, .bipush 10, 2, 0, 0, .int 10), (72, .idiv, 1, 0, 0, .null), (73, .iastore, 1, 0, 0, .null), (74, .aload_n 0, 1, 0, 0, .null), (75, .getfield 35, 3, 12, 12, .null), (78, .aload_n 0, 1, 0, 0, .null), (79, .getfield 104, 3, 12, 14, .null), (82, .iload_n 1, 1, 1, 0, .null), (83, .bipush 10, 2, 0, 0, .int 10), (85, .irem, 1, 0, 0, .null), (86, .iastore, 1, 0, 0, .null), (87, .aload_n 0, 1, 0, 0, .null), (88, .getfield 38, 3, 12, 13, .null), (91, .aload_n 0, 1, 0, 0, .null), (92, .getfield 104, 3, 12, 14, .null), (95, .iload_n 2, 1, 2, 0, .null), (96, .iastore, 1, 0, 0, .null), (97, .aload_n 0, 1, 0, 0, .null), (98, .dup, 1, 0, 0, .null), (99, .getfield 104, 3, 12, 14, .null), (102, .iconst 1, 1, 0, 0, .int 1), (103, .iadd, 1, 0, 0, .null), (104, .putfield 104, 3, 12, 14, .null), (107, .aload_n 0, 1, 0, 0, .null), (108, .getfield 104, 3, 12, 14, .null), (111, .iconst 1, 1, 0, 0, .int 1), (112, .isub, 1, 0, 0, .null), (113, .ireturn, 1, 0, 0, .null)]
theorem ok_Mo_child : cd_Mo_child.all (mm_k M_Mo_child) = true := by decide +kernel
abbrev M_Mo_set : mm_M := (⟨"SchoolOnRaftModel", "set", "(III)I"⟩, prog_14_method_11_code, 5, (some .int))
def cd_Mo_set : List mm_E := [(0, .iload_n 1, 1, 1, 0, .null), (1, .i2l, 1, 0, 0, .null), (2, .lconst 0, 1, 0, 0, .long 0), (3, .ldc2_w 115, 3, 0, 0, .long 4), (6, .invokestatic 100, 3, 0, 0, .null), (9, .ifCond .eq 27, 3, 0, 36, .null), (12, .iload_n 1, 1, 1, 0, .null), (13, .iconst 2, 1, 0, 0, .int 2), (14, .if_icmp .ge 14, 3, 0, 28, .null), (17, .aload_n 0, 1, 0, 0, .null), (18, .iload_n 2, 1, 2, 0, .null), (19, .invokevirtual 117, 3, 0, 0, .null), (22, .ifCond .eq 14, 3, 0, 36, .null), (25, .goto 14, 3, 0, 39, .null), (28, .aload_n 0, 1, 0, 0, .null), (29, .iload_n 2, 1, 2, 0, .null), (30, .invokevirtual 121, 3, 0, 0, .null), (33, .ifCond .ne 6, 3, 0, 39, .null), (36, .bipush (-2), 2, 0, 0, .int (-2)), (38, .ireturn, 1, 0, 0, .null), (39, .iload_n 1, 1, 1, 0, .null), (40, .ifCond .ne 15, 3, 0, 55, .null), (43, .iload_n 3, 1, 3, 0, .null), (44, .i2l, 1, 0, 0, .null), (45, .lconst 0, 1, 0, 0, .long 0), (46, .ldc2_w 109, 3, 0, 0, .long 9), (49, .invokestatic 100, 3, 0, 0, .null), (52, .ifCond .eq 86, 3, 0, 138, .null), (55, .iload_n 1, 1, 1, 0, .null), (56, .iconst 1, 1, 0, 0, .int 1), (57, .if_icmp .ne 18, 3, 0, 75, .null), (60, .iload_n 3, 1, 3, 0, .null), (61, .i2l, 1, 0, 0, .null), (62, .lconst 0, 1, 0, 0, .long 0), (63, .iconst 1, 1, 0, 0, .int 1), (64, .iload_n 2, 1, 2, 0, .null), (65, .ishl, 1, 0, 0, .null), (66, .iconst 1, 1, 0, 0, .int 1), (67, .isub, 1, 0, 0, .null), (68, .i2l, 1, 0, 0, .null), (69, .invokestatic 100, 3, 0, 0, .null), (72, .ifCond .eq 66, 3, 0, 138, .null), (75, .iload_n 1, 1, 1, 0, .null), (76, .iconst 2, 1, 0, 0, .int 2), (77, .if_icmp .ne 19, 3, 0, 96, .null), (80, .iload_n 3, 1, 3, 0, .null), (81, .i2l, 1, 0, 0, .null), (82, .lconst 0, 1, 0, 0, .long 0), (83, .aload_n 0, 1, 0, 0, .null), (84, .getfield 35, 3, 12, 12, .null), (87, .iload_n 2, 1, 2, 0, .null), (88, .iaload, 1, 0, 0, .null), (89, .i2l, 1, 0, 0, .null), (90, .invokestatic 100, 3, 0, 0, .null), (93, .ifCond .eq 45, 3, 0, 138, .null), (96, .iload_n 1, 1, 1, 0, .null), (97, .iconst 3, 1, 0, 0, .int 3), (98, .if_icmp .ne 21, 3, 0, 119, .null), (101, .iload_n 3, 1, 3, 0, .null), (102, .i2l, 1, 0, 0, .null), (103, .aload_n 0, 1, 0, 0, .null), (104, .getfield 32, 3, 12, 11, .null), (107, .iload_n 2, 1, 2, 0, .null), (108, .iaload, 1, 0, 0, .null), (109, .i2l, 1, 0, 0, .null), (110, .ldc2_w 107, 3, 0, 0, .long 5), (113, .invokestatic 100, 3, 0, 0, .null), (116, .ifCond .eq 22, 3, 0, 138, .null), (119, .iload_n 1, 1, 1, 0, .null), (120, .iconst 4, 1, 0, 0, .int 4), (121, .if_icmp .ne 20, 3, 0, 141, .null), (124, .iload_n 3, 1, 3, 0, .null), (125, .i2l, 1, 0, 0, .null), (126, .ldc2_w 107, 3, 0, 0, .long 5), (129, .ldc2_w 113, 3, 0, 0, .long 14), (132, .invokestatic 100, 3, 0, 0, .null), (135, .ifCond .ne 6, 3, 0, 141, .null), (138, .bipush (-2), 2, 0, 0, .int (-2)), (140, .ireturn, 1, 0, 0, .null), (141, .iload_n 1, 1, 1, 0, .null), (142, .ifCond .ne 12, 3, 0, 154, .null), (145, .aload_n 0, 1, 0, 0, .null), (146, .getfield 26, 3, 12, 8, .null), (149, .iload_n 2, 1, 2, 0, .null), (150, .iaload, 1, 0, 0, .null), (151, .goto 51, 3, 0, 202, .null), (154, .iload_n 1, 1, 1, 0, .null), (155, .iconst 1, 1, 0, 0, .int 1), (156, .if_icmp .ne 12, 3, 0, 168, .null), (159, .aload_n 0, 1, 0, 0, .null), (160, .getfield 29, 3, 12, 9, .null), (163, .iload_n 2, 1, 2, 0, .null), (164, .iaload, 1, 0, 0, .null), (165, .goto 37, 3, 0, 202, .null), (168, .iload_n 1, 1, 1, 0, .null), (169, .iconst 2, 1, 0, 0, .int 2), (170, .if_icmp .ne 12, 3, 0, 182, .null), (173, .aload_n 0, 1, 0, 0, .null), (174, .getfield 32, 3, 12, 11, .null), (177, .iload_n 2, 1, 2, 0, .null), (178, .iaload, 1, 0, 0, .null), (179, .goto 23, 3, 0, 202, .null), (182, .iload_n 1, 1, 1, 0, .null), (183, .iconst 3, 1, 0, 0, .int 3), (184, .if_icmp .ne 12, 3, 0, 196, .null), (187, .aload_n 0, 1, 0, 0, .null), (188, .getfield 35, 3, 12, 12, .null), (191, .iload_n 2, 1, 2, 0, .null), (192, .iaload, 1, 0, 0, .null), (193, .goto 9, 3, 0, 202, .null), (196, .aload_n 0, 1, 0, 0, .null), (197, .getfield 38, 3, 12, 13, .null), (200, .iload_n 2, 1, 2, 0, .null), (201, .iaload, 1, 0, 0, .null), (202, .istore 4, 2, 4, 0, .null), (204, .iload_n 1, 1, 1, 0, .null), (205, .ifCond .ne 13, 3, 0, 218, .null), (208, .aload_n 0, 1, 0, 0, .null), (209, .getfield 26, 3, 12, 8, .null), (212, .iload_n 2, 1, 2, 0, .null), (213, .iload_n 3, 1, 3, 0, .null), (214, .iastore, 1, 0, 0, .null), (215, .goto 55, 3, 0, 270, .null), (218, .iload_n 1, 1, 1, 0, .null), (219, .iconst 1, 1, 0, 0, .int 1), (220, .if_icmp .ne 13, 3, 0, 233, .null), (223, .aload_n 0, 1, 0, 0, .null), (224, .getfield 29, 3, 12, 9, .null), (227, .iload_n 2, 1, 2, 0, .null), (228, .iload_n 3, 1, 3, 0, .null), (229, .iastore, 1, 0, 0, .null), (230, .goto 40, 3, 0, 270, .null), (233, .iload_n 1, 1, 1, 0, .null), (234, .iconst 2, 1, 0, 0, .int 2), (235, .if_icmp .ne 13, 3, 0, 248, .null), (238, .aload_n 0, 1, 0, 0, .null), (239, .getfield 32, 3, 12, 11, .null), (242, .iload_n 2, 1, 2, 0, .null), (243, .iload_n 3, 1, 3, 0, .null), (244, .iastore, 1, 0, 0, .null), (245, .goto 25, 3, 0, 270, .null), (248, .iload_n 1, 1, 1, 0, .null), (249, .iconst 3, 1, 0, 0, .int 3), (250, .if_icmp .ne 13, 3, 0, 263, .null), (253, .aload_n 0, 1, 0, 0, .null), (254, .getfield 35, 3, 12, 12, .null), (257, .iload_n 2, 1, 2, 0, .null), (258, .iload_n 3, 1, 3, 0, .null), (259, .iastore, 1, 0, 0, .null), (260, .goto 10, 3, 0, 270, .null), (263, .aload_n 0, 1, 0, 0, .null), (264, .getfield 38, 3, 12, 13, .null), (267, .iload_n 2, 1, 2, 0, .null), (268, .iload_n 3, 1, 3, 0, .null), (269, .iastore, 1, 0, 0, .null), (270, .iload 4, 2, 4, 0, .null), (272, .ireturn, 1, 0, 0, .null)]
theorem ok_Mo_set : cd_Mo_set.all (mm_k M_Mo_set) = true := by decide +kernel
abbrev M_Mo_times : mm_M := (⟨"SchoolOnRaftModel", "times", "(I)I"⟩, prog_14_method_12_code, 3, (some .int))
def cd_Mo_times : List mm_E := [(0, .aload_n 0, 1, 0, 0, .null), (1, .getfield 23, 3, 12, 7, .null), (4, .iload_n 1, 1, 1, 0, .null), (5, .iaload, 1, 0, 0, .null), (6, .istore_n 2, 1, 2, 0, .null), (7, .iload_n 2, 1, 2, 0, .null), (8, .iconst 1, 1, 0, 0, .int 1), (9, .if_icmp .eq 13, 3, 0, 22, .null), (12, .iload_n 2, 1, 2, 0, .null), (13, .iconst 3, 1, 0, 0, .int 3), (14, .if_icmp .eq 8, 3, 0, 22, .null), (17, .iload_n 2, 1, 2, 0, .null), (18, .iconst 5, 1, 0, 0, .int 5), (19, .if_icmp .ne 25, 3, 0, 44, .null), (22, .iconst 1, 1, 0, 0, .int 1), (23, .aload_n 0, 1, 0, 0, .null), (24, .getfield 26, 3, 12, 8, .null), (27, .iload_n 1, 1, 1, 0, .null), (28, .iaload, 1, 0, 0, .null), (29, .iconst 3, 1, 0, 0, .int 3), (30, .irem, 1, 0, 0, .null), (31, .iadd, 1, 0, 0, .null), (32, .iload_n 2, 1, 2, 0, .null), (33, .iconst 3, 1, 0, 0, .int 3), (34, .if_icmp .ne 7, 3, 0, 41, .null), (37, .iconst 1, 1, 0, 0, .int 1), (38, .goto 4, 3, 0, 42, .null), (41, .iconst 0, 1, 0, 0, .int 0), (42, .iadd, 1, 0, 0, .null), (43, .ireturn, 1, 0, 0, .null), (44, .iload_n 2, 1, 2, 0, .null), (45, .iconst 4, 1, 0, 0, .int 4), (46, .if_icmp .ne 16, 3, 0, 62, .null), (49, .iconst 1, 1, 0, 0, .int 1), (50, .aload_n 0, 1, 0, 0, .null), (51, .getfield 26, 3, 12, 8, .null), (54, .iload_n 1, 1, 1, 0, .null), (55, .iaload, 1, 0, 0, .null), (56, .iconst 2, 1, 0, 0, .int 2), (57, .irem, 1, 0, 0, .null), (58, .iadd, 1, 0, 0, .null), (59, .goto 4, 3, 0, 63, .null), (62, .iconst 1, 1, 0, 0, .int 1), (63, .ireturn, 1, 0, 0, .null)]
theorem ok_Mo_times : cd_Mo_times.all (mm_k M_Mo_times) = true := by decide +kernel
abbrev M_Mo_keeps : mm_M := (⟨"SchoolOnRaftModel", "keeps", "(II)Z"⟩, prog_14_method_13_code, 4, (some .boolean))
def cd_Mo_keeps : List mm_E := [(0, .aload_n 0, 1, 0, 0, .null), (1, .getfield 23, 3, 12, 7, .null), (4, .iload_n 1, 1, 1, 0, .null), (5, .iaload, 1, 0, 0, .null), (6, .istore_n 3, 1, 3, 0, .null), (7, .iload_n 3, 1, 3, 0, .null), (8, .iconst 2, 1, 0, 0, .int 2), (9, .if_icmp .ne 19, 3, 0, 28, .null), (12, .iload_n 2, 1, 2, 0, .null), (13, .aload_n 0, 1, 0, 0, .null), (14, .getfield 26, 3, 12, 8, .null), (17, .iload_n 1, 1, 1, 0, .null), (18, .iaload, 1, 0, 0, .null), (19, .if_icmp .gt 7, 3, 0, 26, .null), (22, .iconst 1, 1, 0, 0, .int 1), (23, .goto 4, 3, 0, 27, .null), (26, .iconst 0, 1, 0, 0, .int 0), (27, .ireturn, 1, 0, 0, .null), (28, .iload_n 3, 1, 3, 0, .null), (29, .iconst 4, 1, 0, 0, .int 4), (30, .if_icmp .ne 25, 3, 0, 55, .null), (33, .iload_n 2, 1, 2, 0, .null), (34, .aload_n 0, 1, 0, 0, .null), (35, .getfield 26, 3, 12, 8, .null), (38, .iload_n 1, 1, 1, 0, .null), (39, .iaload, 1, 0, 0, .null), (40, .if_icmp .le 9, 3, 0, 49, .null), (43, .iload_n 2, 1, 2, 0, .null), (44, .iconst 2, 1, 0, 0, .int 2), (45, .irem, 1, 0, 0, .null), (46, .ifCond .ne 7, 3, 0, 53, .null), (49, .iconst 1, 1, 0, 0, .int 1), (50, .goto 4, 3, 0, 54, .null), (53, .iconst 0, 1, 0, 0, .int 0), (54, .ireturn, 1, 0, 0, .null), (55, .iload_n 3, 1, 3, 0, .null), (56, .iconst 3, 1, 0, 0, .int 3), (57, .if_icmp .ne 8, 3, 0, 65, .null), (60, .iload_n 2, 1, 2, 0, .null), (61, .iconst 4, 1, 0, 0, .int 4), (62, .if_icmp .gt 7, 3, 0, 69, .null), (65, .iconst 1, 1, 0, 0, .int 1), (66, .goto 4, 3, 0, 70, .null), (69, .iconst 0, 1, 0, 0, .int 0), (70, .ireturn, 1, 0, 0, .null)]
theorem ok_Mo_keeps : cd_Mo_keeps.all (mm_k M_Mo_keeps) = true := by decide +kernel
abbrev M_Mo_pointsOf : mm_M := (⟨"SchoolOnRaftModel", "pointsOf", "(I)I"⟩, prog_14_method_14_code, 4, (some .int))
def cd_Mo_pointsOf : List mm_E := [(0, .aload_n 0, 1, 0, 0, .null), (1, .getfield 23, 3, 12, 7, .null), (4, .iload_n 1, 1, 1, 0, .null), (5, .iaload, 1, 0, 0, .null), (6, .istore_n 2, 1, 2, 0, .null), (7, .bipush 10, 2, 0, 0, .int 10), (9, .aload_n 0, 1, 0, 0, .null), (10, .getfield 26, 3, 12, 8, .null), (13, .iload_n 1, 1, 1, 0, .null), (14, .iaload, 1, 0, 0, .null), (15, .iadd, 1, 0, 0, .null), (16, .istore_n 3, 1, 3, 0, .null), (17, .iload_n 2, 1, 2, 0, .null), (18, .ifCond .ne 5, 3, 0, 23, .null), (21, .iload_n 3, 1, 3, 0, .null), (22, .ireturn, 1, 0, 0, .null), (23, .iload_n 2, 1, 2, 0, .null), (24, .iconst 2, 1, 0, 0, .int 2), (25, .if_icmp .eq 8, 3, 0, 33, .null), (28, .iload_n 2, 1, 2, 0, .null), (29, .iconst 4, 1, 0, 0, .int 4), (30, .if_icmp .ne 20, 3, 0, 50, .null), (33, .iload_n 2, 1, 2, 0, .null), (34, .iconst 4, 1, 0, 0, .int 4), (35, .if_icmp .ne 11, 3, 0, 46, .null), (38, .iload_n 3, 1, 3, 0, .null), (39, .iconst 5, 1, 0, 0, .int 5), (40, .isub, 1, 0, 0, .null), (41, .iconst 2, 1, 0, 0, .int 2), (42, .idiv, 1, 0, 0, .null), (43, .goto 6, 3, 0, 49, .null), (46, .iload_n 3, 1, 3, 0, .null), (47, .iconst 5, 1, 0, 0, .int 5), (48, .isub, 1, 0, 0, .null), (49, .ireturn, 1, 0, 0, .null), (50, .iconst 2, 1, 0, 0, .int 2), (51, .iload_n 3, 1, 3, 0, .null), (52, .imul, 1, 0, 0, .null), (53, .iload_n 2, 1, 2, 0, .null), (54, .iconst 3, 1, 0, 0, .int 3), (55, .if_icmp .ne 12, 3, 0, 67, .null), (58, .aload_n 0, 1, 0, 0, .null), (59, .getfield 26, 3, 12, 8, .null), (62, .iload_n 1, 1, 1, 0, .null), (63, .iaload, 1, 0, 0, .null), (64, .goto 14, 3, 0, 78, .null), (67, .iload_n 2, 1, 2, 0, .null), (68, .iconst 5, 1, 0, 0, .int 5), (69, .if_icmp .ne 8, 3, 0, 77, .null), (72, .bipush 7, 2, 0, 0, .int 7), (74, .goto 4, 3, 0, 78, .null), (77, .iconst 0, 1, 0, 0, .int 0), (78, .iadd, 1, 0, 0, .null), (79, .ireturn, 1, 0, 0, .null)]
theorem ok_Mo_pointsOf : cd_Mo_pointsOf.all (mm_k M_Mo_pointsOf) = true := by decide +kernel
abbrev M_Mo_told : mm_M := (⟨"SchoolOnRaftModel", "told", "(II)I"⟩, prog_14_method_15_code, 3, (some .int))
def cd_Mo_told : List mm_E := [(0, .iload_n 2, 1, 2, 0, .null), (1, .i2l, 1, 0, 0, .null), (2, .lconst 0, 1, 0, 0, .long 0), (3, .ldc2_w 124, 3, 0, 0, .long 7), (6, .invokestatic 100, 3, 0, 0, .null), (9, .ifCond .eq 27, 3, 0, 36, .null), (12, .iload_n 2, 1, 2, 0, .null), (13, .iconst 5, 1, 0, 0, .int 5), (14, .if_icmp .ge 14, 3, 0, 28, .null), (17, .aload_n 0, 1, 0, 0, .null), (18, .iload_n 1, 1, 1, 0, .null), (19, .invokevirtual 117, 3, 0, 0, .null), (22, .ifCond .eq 14, 3, 0, 36, .null), (25, .goto 14, 3, 0, 39, .null), (28, .aload_n 0, 1, 0, 0, .null), (29, .iload_n 1, 1, 1, 0, .null), (30, .invokevirtual 121, 3, 0, 0, .null), (33, .ifCond .ne 6, 3, 0, 39, .null), (36, .bipush (-2), 2, 0, 0, .int (-2)), (38, .ireturn, 1, 0, 0, .null), (39, .iload_n 2, 1, 2, 0, .null), (40, .iconst 3, 1, 0, 0, .int 3), (41, .if_icmp .ge 37, 3, 0, 78, .null), (44, .iload_n 2, 1, 2, 0, .null), (45, .ifCond .ne 12, 3, 0, 57, .null), (48, .aload_n 0, 1, 0, 0, .null), (49, .getfield 23, 3, 12, 7, .null), (52, .iload_n 1, 1, 1, 0, .null), (53, .iaload, 1, 0, 0, .null), (54, .goto 23, 3, 0, 77, .null), (57, .iload_n 2, 1, 2, 0, .null), (58, .iconst 1, 1, 0, 0, .int 1), (59, .if_icmp .ne 12, 3, 0, 71, .null), (62, .aload_n 0, 1, 0, 0, .null), (63, .getfield 26, 3, 12, 8, .null), (66, .iload_n 1, 1, 1, 0, .null), (67, .iaload, 1, 0, 0, .null), (68, .goto 9, 3, 0, 77, .null), (71, .aload_n 0, 1, 0, 0, .null), (72, .getfield 29, 3, 12, 9, .null), (75, .iload_n 1, 1, 1, 0, .null), (76, .iaload, 1, 0, 0, .null), (77, .ireturn, 1, 0, 0, .null), (78, .iload_n 2, 1, 2, 0, .null), (79, .iconst 5, 1, 0, 0, .int 5), (80, .if_icmp .ge 22, 3, 0, 102, .null), (83, .iload_n 2, 1, 2, 0, .null), (84, .iconst 3, 1, 0, 0, .int 3), (85, .if_icmp .ne 11, 3, 0, 96, .null), (88, .aload_n 0, 1, 0, 0, .null), (89, .iload_n 1, 1, 1, 0, .null), (90, .invokevirtual 126, 3, 0, 0, .null), (93, .goto 8, 3, 0, 101, .null), (96, .aload_n 0, 1, 0, 0, .null), (97, .iload_n 1, 1, 1, 0, .null), (98, .invokevirtual 130, 3, 0, 0, .null), (101, .ireturn, 1, 0, 0, .null), (102, .iload_n 2, 1, 2, 0, .null), (103, .iconst 5, 1, 0, 0, .int 5), (104, .if_icmp .ne 12, 3, 0, 116, .null), (107, .aload_n 0, 1, 0, 0, .null), (108, .getfield 32, 3, 12, 11, .null), (111, .iload_n 1, 1, 1, 0, .null), (112, .iaload, 1, 0, 0, .null), (113, .goto 24, 3, 0, 137, .null), (116, .iload_n 2, 1, 2, 0, .null), (117, .bipush 6, 2, 0, 0, .int 6), (119, .if_icmp .ne 12, 3, 0, 131, .null), (122, .aload_n 0, 1, 0, 0, .null), (123, .getfield 35, 3, 12, 12, .null), (126, .iload_n 1, 1, 1, 0, .null), (127, .iaload, 1, 0, 0, .null), (128, .goto 9, 3, 0, 137, .null), (131, .aload_n 0, 1, 0, 0, .null), (132, .getfield 38, 3, 12, 13, .null), (135, .iload_n 1, 1, 1, 0, .null), (136, .iaload, 1, 0, 0, .null), (137, .ireturn, 1, 0, 0, .null)]
theorem ok_Mo_told : cd_Mo_told.all (mm_k M_Mo_told) = true := by decide +kernel
abbrev M_Mo_give : mm_M := (⟨"SchoolOnRaftModel", "give", "(III)I"⟩, prog_14_method_16_code, 5, (some .int))
def cd_Mo_give : List mm_E := [(0, .iload_n 1, 1, 1, 0, .null), (1, .i2l, 1, 0, 0, .null), (2, .lconst 0, 1, 0, 0, .long 0), (3, .lconst 1, 1, 0, 0, .long 1), (4, .invokestatic 100, 3, 0, 0, .null), (7, .ifCond .eq 28, 3, 0, 35, .null), (10, .iload_n 2, 1, 2, 0, .null), (11, .i2l, 1, 0, 0, .null), (12, .lconst 0, 1, 0, 0, .long 0), (13, .ldc2_w 107, 3, 0, 0, .long 5), (16, .invokestatic 100, 3, 0, 0, .null), (19, .ifCond .eq 16, 3, 0, 35, .null), (22, .iload_n 3, 1, 3, 0, .null), (23, .iconst (-1), 1, 0, 0, .int (-1)), (24, .if_icmp .eq 14, 3, 0, 38, .null), (27, .aload_n 0, 1, 0, 0, .null), (28, .iload_n 3, 1, 3, 0, .null), (29, .invokevirtual 117, 3, 0, 0, .null), (32, .ifCond .ne 6, 3, 0, 38, .null), (35, .bipush (-2), 2, 0, 0, .int (-2)), (37, .ireturn, 1, 0, 0, .null), (38, .aload_n 0, 1, 0, 0, .null), (39, .getfield 41, 3, 12, 15, .null), (42, .bipush 6, 2, 0, 0, .int 6), (44, .iload_n 1, 1, 1, 0, .null), (45, .imul, 1, 0, 0, .null), (46, .iload_n 2, 1, 2, 0, .null), (47, .iadd, 1, 0, 0, .null), (48, .iaload, 1, 0, 0, .null), (49, .istore 4, 2, 4, 0, .null), (51, .aload_n 0, 1, 0, 0, .null), (52, .getfield 41, 3, 12, 15, .null), (55, .bipush 6, 2, 0, 0, .int 6), (57, .iload_n 1, 1, 1, 0, .null), (58, .imul, 1, 0, 0, .null), (59, .iload_n 2, 1, 2, 0, .null), (60, .iadd, 1, 0, 0, .null), (61, .iload_n 3, 1, 3, 0, .null), (62, .iastore, 1, 0, 0, .null), (63, .iload 4, 2, 4, 0, .null), (65, .ireturn, 1, 0, 0, .null)]
theorem ok_Mo_give : cd_Mo_give.all (mm_k M_Mo_give) = true := by decide +kernel
abbrev M_Mo_given : mm_M := (⟨"SchoolOnRaftModel", "given", "(II)I"⟩, prog_14_method_17_code, 3, (some .int))
def cd_Mo_given : List mm_E := [(0, .iload_n 1, 1, 1, 0, .null), (1, .i2l, 1, 0, 0, .null), (2, .lconst 0, 1, 0, 0, .long 0), (3, .lconst 1, 1, 0, 0, .long 1), (4, .invokestatic 100, 3, 0, 0, .null), (7, .ifCond .eq 29, 3, 0, 36, .null), (10, .iload_n 2, 1, 2, 0, .null), (11, .i2l, 1, 0, 0, .null), (12, .lconst 0, 1, 0, 0, .long 0), (13, .ldc2_w 107, 3, 0, 0, .long 5), (16, .invokestatic 100, 3, 0, 0, .null), (19, .ifCond .eq 17, 3, 0, 36, .null), (22, .aload_n 0, 1, 0, 0, .null), (23, .getfield 41, 3, 12, 15, .null), (26, .bipush 6, 2, 0, 0, .int 6), (28, .iload_n 1, 1, 1, 0, .null), (29, .imul, 1, 0, 0, .null), (30, .iload_n 2, 1, 2, 0, .null), (31, .iadd, 1, 0, 0, .null), (32, .iaload, 1, 0, 0, .null), (33, .goto 5, 3, 0, 38, .null), (36, .bipush (-2), 2, 0, 0, .int (-2)), (38, .ireturn, 1, 0, 0, .null)]
theorem ok_Mo_given : cd_Mo_given.all (mm_k M_Mo_given) = true := by decide +kernel
abbrev M_Mo_feed : mm_M := (⟨"SchoolOnRaftModel", "feed", "(I)I"⟩, prog_14_method_18_code, 2, (some .int))
def cd_Mo_feed : List mm_E := [(0, .iload_n 1, 1, 1, 0, .null), (1, .i2l, 1, 0, 0, .null), (2, .lconst 0, 1, 0, 0, .long 0), (3, .ldc2_w 133, 3, 0, 0, .long 255), (6, .invokestatic 100, 3, 0, 0, .null), (9, .ifCond .ne 6, 3, 0, 15, .null), (12, .bipush (-2), 2, 0, 0, .int (-2)), (14, .ireturn, 1, 0, 0, .null), (15, .aload_n 0, 1, 0, 0, .null), (16, .getfield 135, 3, 12, 6, .null), (19, .sipush 160, 3, 0, 0, .int 160), (22, .if_icmp .ne 6, 3, 0, 28, .null), (25, .bipush (-4), 2, 0, 0, .int (-4)), (27, .ireturn, 1, 0, 0, .null), (28, .aload_n 0, 1, 0, 0, .null), (29, .getfield 20, 3, 12, 5, .null), (32, .aload_n 0, 1, 0, 0, .null), (33, .getfield 135, 3, 12, 6, .null), (36, .iload_n 1, 1, 1, 0, .null), (37, .iastore, 1, 0, 0, .null), (38, .aload_n 0, 1, 0, 0, .null), (39, .dup, 1, 0, 0, .null), (40, .getfield 135, 3, 12, 6, .null), (43, .iconst 1, 1, 0, 0, .int 1), (44, .iadd, 1, 0, 0, .null), (45, .putfield 135, 3, 12, 6, .null), (48, .aload_n 0, 1, 0, 0, .null), (49, .getfield 135, 3, 12, 6, .null), (52, .ireturn, 1, 0, 0, .null)]
theorem ok_Mo_feed : cd_Mo_feed.all (mm_k M_Mo_feed) = true := by decide +kernel
abbrev M_Mo_byteAt : mm_M := (⟨"SchoolOnRaftModel", "byteAt", "(I)I"⟩, prog_14_method_19_code, 2, (some .int))
def cd_Mo_byteAt : List mm_E := [(0, .iload_n 1, 1, 1, 0, .null), (1, .aload_n 0, 1, 0, 0, .null), (2, .getfield 138, 3, 12, 23, .null), (5, .if_icmp .ge 17, 3, 0, 22, .null), (8, .aload_n 0, 1, 0, 0, .null), (9, .getfield 13, 3, 12, 1, .null), (12, .aload_n 0, 1, 0, 0, .null), (13, .getfield 141, 3, 12, 22, .null), (16, .iload_n 1, 1, 1, 0, .null), (17, .iadd, 1, 0, 0, .null), (18, .iaload, 1, 0, 0, .null), (19, .goto 4, 3, 0, 23, .null), (22, .iconst (-1), 1, 0, 0, .int (-1)), (23, .ireturn, 1, 0, 0, .null)]
theorem ok_Mo_byteAt : cd_Mo_byteAt.all (mm_k M_Mo_byteAt) = true := by decide +kernel
abbrev M_Mo_next : mm_M := (⟨"SchoolOnRaftModel", "next", "()V"⟩, prog_14_method_20_code, 3, none)
def cd_Mo_next : List mm_E := [(0, .aload_n 0, 1, 0, 0, .null), (1, .aload_n 0, 1, 0, 0, .null), (2, .getfield 144, 3, 12, 24, .null), (5, .invokevirtual 147, 3, 0, 0, .null), (8, .bipush 32, 2, 0, 0, .int 32), (10, .if_icmp .eq 16, 3, 0, 26, .null), (13, .aload_n 0, 1, 0, 0, .null), (14, .aload_n 0, 1, 0, 0, .null), (15, .getfield 144, 3, 12, 24, .null), (18, .invokevirtual 147, 3, 0, 0, .null), (21, .bipush 10, 2, 0, 0, .int 10), (23, .if_icmp .ne 16, 3, 0, 39, .null), (26, .aload_n 0, 1, 0, 0, .null), (27, .dup, 1, 0, 0, .null), (28, .getfield 144, 3, 12, 24, .null), (31, .iconst 1, 1, 0, 0, .int 1), (32, .iadd, 1, 0, 0, .null), (33, .putfield 144, 3, 12, 24, .null), (36, .goto (-36), 3, 0, 0, .null), (39, .aload_n 0, 1, 0, 0, .null), (40, .aload_n 0, 1, 0, 0, .null), (41, .getfield 144, 3, 12, 24, .null), (44, .putfield 150, 3, 12, 26, .null), (47, .aload_n 0, 1, 0, 0, .null), (48, .aload_n 0, 1, 0, 0, .null), (49, .getfield 144, 3, 12, 24, .null), (52, .invokevirtual 147, 3, 0, 0, .null), (55, .istore_n 1, 1, 1, 0, .null), (56, .aload_n 0, 1, 0, 0, .null), (57, .iconst 4, 1, 0, 0, .int 4), (58, .putfield 153, 3, 12, 25, .null), (61, .iload_n 1, 1, 1, 0, .null), (62, .ifCond .ge 19, 3, 0, 81, .null), (65, .aload_n 0, 1, 0, 0, .null), (66, .iconst 0, 1, 0, 0, .int 0), (67, .putfield 153, 3, 12, 25, .null), (70, .aload_n 0, 1, 0, 0, .null), (71, .aload_n 0, 1, 0, 0, .null), (72, .getfield 138, 3, 12, 23, .null), (75, .putfield 150, 3, 12, 26, .null), (78, .goto 243, 3, 0, 321, .null), (81, .iload_n 1, 1, 1, 0, .null), (82, .i2l, 1, 0, 0, .null), (83, .ldc2_w 156, 3, 0, 0, .long 97), (86, .ldc2_w 158, 3, 0, 0, .long 122), (89, .invokestatic 100, 3, 0, 0, .null), (92, .ifCond .eq 42, 3, 0, 134, .null), (95, .aload_n 0, 1, 0, 0, .null), (96, .iconst 1, 1, 0, 0, .int 1), (97, .putfield 153, 3, 12, 25, .null), (100, .aload_n 0, 1, 0, 0, .null), (101, .aload_n 0, 1, 0, 0, .null), (102, .getfield 144, 3, 12, 24, .null), (105, .invokevirtual 147, 3, 0, 0, .null), (108, .i2l, 1, 0, 0, .null), (109, .ldc2_w 156, 3, 0, 0, .long 97), (112, .ldc2_w 158, 3, 0, 0, .long 122), (115, .invokestatic 100, 3, 0, 0, .null), (118, .ifCond .eq 203, 3, 0, 321, .null), (121, .aload_n 0, 1, 0, 0, .null), (122, .dup, 1, 0, 0, .null), (123, .getfield 144, 3, 12, 24, .null), (126, .iconst 1, 1, 0, 0, .int 1), (127, .iadd, 1, 0, 0, .null), (128, .putfield 144, 3, 12, 24, .null), (131, .goto (-31), 3, 0, 100, .null), (134, .iload_n 1, 1, 1, 0, .null), (135, .i2l, 1, 0, 0, .null), (136, .ldc2_w 160, 3, 0, 0, .long 48), (139, .ldc2_w 162, 3, 0, 0, .long 57), (142, .invokestatic 100, 3, 0, 0, .null), (145, .ifCond .eq 107, 3, 0, 252, .null), (148, .aload_n 0, 1, 0, 0, .null), (149, .iconst 2, 1, 0, 0, .int 2), (150, .putfield 153, 3, 12, 25, .null), (153, .aload_n 0, 1, 0, 0, .null), (154, .lconst 0, 1, 0, 0, .long 0), (155, .putfield 164, 3, 12, 27, .null), (158, .iconst 0, 1, 0, 0, .int 0), (159, .istore_n 2, 1, 2, 0, .null), (160, .aload_n 0, 1, 0, 0, .null), (161, .aload_n 0, 1, 0, 0, .null), (162, .getfield 144, 3, 12, 24, .null), (165, .invokevirtual 147, 3, 0, 0, .null), (168, .i2l, 1, 0, 0, .null), (169, .ldc2_w 160, 3, 0, 0, .long 48), (172, .ldc2_w 162, 3, 0, 0, .long 57), (175, .invokestatic 100, 3, 0, 0, .null), (178, .ifCond .eq 57, 3, 0, 235, .null), (181, .aload_n 0, 1, 0, 0, .null), (182, .iload_n 2, 1, 2, 0, .null), (183, .iconst 4, 1, 0, 0, .int 4), (184, .if_icmp .ge 28, 3, 0, 212, .null), (187, .ldc2_w 168, 3, 0, 0, .long 10), (190, .aload_n 0, 1, 0, 0, .null), (191, .getfield 164, 3, 12, 27, .null), (194, .lmul, 1, 0, 0, .null), (195, .aload_n 0, 1, 0, 0, .null), (196, .aload_n 0, 1, 0, 0, .null), (197, .getfield 144, 3, 12, 24, .null), (200, .invokevirtual 147, 3, 0, 0, .null), (203, .i2l, 1, 0, 0, .null), (204, .ladd, 1, 0, 0, .null), (205, .ldc2_w 160, 3, 0, 0, .long 48), (208, .lsub, 1, 0, 0, .null), (209, .goto 7, 3, 0, 216, .null), (212, .aload_n 0, 1, 0, 0, .null), (213, .getfield 164, 3, 12, 27, .null), (216, .putfield 164, 3, 12, 27, .null), (219, .iinc 2 1, 3, 2, 0, .int 1), (222, .aload_n 0, 1, 0, 0, .null), (223, .dup, 1, 0, 0, .null), (224, .getfield 144, 3, 12, 24, .null), (227, .iconst 1, 1, 0, 0, .int 1), (228, .iadd, 1, 0, 0, .null), (229, .putfield 144, 3, 12, 24, .null), (232, .goto (-72), 3, 0, 160, .null), (235, .aload_n 0, 1, 0, 0, .null), (236, .iload_n 2, 1, 2, 0, .null), (237, .iconst 4, 1, 0, 0, .int 4), (238, .if_icmp .le 7, 3, 0, 245, .null), (241, .iconst 4, 1, 0, 0, .int 4), (242, .goto 4, 3, 0, 246, .null), (245, .iconst 2, 1, 0, 0, .int 2), (246, .putfield 153, 3, 12, 25, .null), (249, .goto 72, 3, 0, 321, .null), (252, .iload_n 1, 1, 1, 0, .null), (253, .bipush 40, 2, 0, 0, .int 40), (255, .if_icmp .eq 45, 3, 0, 300, .null), (258, .iload_n 1, 1, 1, 0, .null), (259, .bipush 41, 2, 0, 0, .int 41), (261, .if_icmp .eq 39, 3, 0, 300, .null), (264, .iload_n 1, 1, 1, 0, .null), (265, .bipush 59, 2, 0, 0, .int 59), (267, .if_icmp .eq 33, 3, 0, 300, .null), (270, .iload_n 1, 1, 1, 0, .null), (271, .bipush 43, 2, 0, 0, .int 43), (273, .if_icmp .eq 27, 3, 0, 300, .null), (276, .iload_n 1, 1, 1, 0, .null), (277, .bipush 45, 2, 0, 0, .int 45), (279, .if_icmp .eq 21, 3, 0, 300, .null), (282, .iload_n 1, 1, 1, 0, .null), (283, .bipush 42, 2, 0, 0, .int 42), (285, .if_icmp .eq 15, 3, 0, 300, .null), (288, .iload_n 1, 1, 1, 0, .null), (289, .bipush 60, 2, 0, 0, .int 60), (291, .if_icmp .eq 9, 3, 0, 300, .null), (294, .iload_n 1, 1, 1, 0, .null), (295, .bipush 61, 2, 0, 0, .int 61), (297, .if_icmp .ne 24, 3, 0, 321, .null), (300, .aload_n 0, 1, 0, 0, .null), (301, .iconst 3, 1, 0, 0, .int 3), (302, .putfield 153, 3, 12, 25, .null), (305, .aload_n 0, 1, 0, 0, .null), (306, .iload_n 1, 1, 1, 0, .null), (307, .i2l, 1, 0, 0, .null), (308, .putfield 164, 3, 12, 27, .null), (311, .aload_n 0, 1, 0, 0, .null), (312, .dup, 1, 0, 0, .null), (313, .getfield 144, 3, 12, 24, .null), (316, .iconst 1, 1, 0, 0, .int 1), (317, .iadd, 1, 0, 0, .null), (318, .putfield 144, 3, 12, 24, .null), (321, .return_, 1, 0, 0, .null)]
theorem ok_Mo_next : cd_Mo_next.all (mm_k M_Mo_next) = true := by decide +kernel
abbrev M_Mo_fail : mm_M := (⟨"SchoolOnRaftModel", "fail", "()V"⟩, prog_14_method_21_code, 1, none)
def cd_Mo_fail : List mm_E := [(0, .aload_n 0, 1, 0, 0, .null), (1, .getfield 170, 3, 12, 29, .null), (4, .ifCond .ne 16, 3, 0, 20, .null), (7, .aload_n 0, 1, 0, 0, .null), (8, .iconst 1, 1, 0, 0, .int 1), (9, .putfield 170, 3, 12, 29, .null), (12, .aload_n 0, 1, 0, 0, .null), (13, .aload_n 0, 1, 0, 0, .null), (14, .getfield 150, 3, 12, 26, .null), (17, .putfield 174, 3, 12, 30, .null), (20, .return_, 1, 0, 0, .null)]
theorem ok_Mo_fail : cd_Mo_fail.all (mm_k M_Mo_fail) = true := by decide +kernel
abbrev M_Mo_isLetter : mm_M := (⟨"SchoolOnRaftModel", "isLetter", "(II)Z"⟩, prog_14_method_22_code, 3, (some .boolean))
def cd_Mo_isLetter : List mm_E := [(0, .aload_n 0, 1, 0, 0, .null), (1, .getfield 150, 3, 12, 26, .null), (4, .iload_n 1, 1, 1, 0, .null), (5, .iadd, 1, 0, 0, .null), (6, .aload_n 0, 1, 0, 0, .null), (7, .getfield 144, 3, 12, 24, .null), (10, .if_icmp .ge 25, 3, 0, 35, .null), (13, .aload_n 0, 1, 0, 0, .null), (14, .aload_n 0, 1, 0, 0, .null), (15, .getfield 150, 3, 12, 26, .null), (18, .iload_n 1, 1, 1, 0, .null), (19, .iadd, 1, 0, 0, .null), (20, .invokevirtual 147, 3, 0, 0, .null), (23, .iload_n 2, 1, 2, 0, .null), (24, .if_icmp .ne 7, 3, 0, 31, .null), (27, .iconst 1, 1, 0, 0, .int 1), (28, .goto 16, 3, 0, 44, .null), (31, .iconst 0, 1, 0, 0, .int 0), (32, .goto 12, 3, 0, 44, .null), (35, .iload_n 2, 1, 2, 0, .null), (36, .ifCond .ne 7, 3, 0, 43, .null), (39, .iconst 1, 1, 0, 0, .int 1), (40, .goto 4, 3, 0, 44, .null), (43, .iconst 0, 1, 0, 0, .int 0), (44, .ireturn, 1, 0, 0, .null)]
theorem ok_Mo_isLetter : cd_Mo_isLetter.all (mm_k M_Mo_isLetter) = true := by decide +kernel
abbrev M_Mo_isWord : mm_M := (⟨"SchoolOnRaftModel", "isWord", "(IIIIIIII)Z"⟩, prog_14_method_23_code, 9, (some .boolean))
def cd_Mo_isWord : List mm_E := [(0, .aload_n 0, 1, 0, 0, .null), (1, .getfield 170, 3, 12, 29, .null), (4, .ifCond .ne 108, 3, 0, 112, .null), (7, .aload_n 0, 1, 0, 0, .null), (8, .getfield 153, 3, 12, 25, .null), (11, .iconst 1, 1, 0, 0, .int 1), (12, .if_icmp .ne 100, 3, 0, 112, .null), (15, .aload_n 0, 1, 0, 0, .null), (16, .getfield 144, 3, 12, 24, .null), (19, .aload_n 0, 1, 0, 0, .null), (20, .getfield 150, 3, 12, 26, .null), (23, .bipush 8, 2, 0, 0, .int 8), (25, .iadd, 1, 0, 0, .null), (26, .if_icmp .gt 86, 3, 0, 112, .null), (29, .aload_n 0, 1, 0, 0, .null), (30, .iconst 0, 1, 0, 0, .int 0), (31, .iload_n 1, 1, 1, 0, .null), (32, .invokevirtual 177, 3, 0, 0, .null), (35, .ifCond .eq 77, 3, 0, 112, .null), (38, .aload_n 0, 1, 0, 0, .null), (39, .iconst 1, 1, 0, 0, .int 1), (40, .iload_n 2, 1, 2, 0, .null), (41, .invokevirtual 177, 3, 0, 0, .null), (44, .ifCond .eq 68, 3, 0, 112, .null), (47, .aload_n 0, 1, 0, 0, .null), (48, .iconst 2, 1, 0, 0, .int 2), (49, .iload_n 3, 1, 3, 0, .null), (50, .invokevirtual 177, 3, 0, 0, .null), (53, .ifCond .eq 59, 3, 0, 112, .null), (56, .aload_n 0, 1, 0, 0, .null), (57, .iconst 3, 1, 0, 0, .int 3), (58, .iload 4, 2, 4, 0, .null), (60, .invokevirtual 177, 3, 0, 0, .null), (63, .ifCond .eq 49, 3, 0, 112, .null), (66, .aload_n 0, 1, 0, 0, .null), (67, .iconst 4, 1, 0, 0, .int 4), (68, .iload 5, 2, 5, 0, .null), (70, .invokevirtual 177, 3, 0, 0, .null), (73, .ifCond .eq 39, 3, 0, 112, .null), (76, .aload_n 0, 1, 0, 0, .null), (77, .iconst 5, 1, 0, 0, .int 5), (78, .iload 6, 2, 6, 0, .null), (80, .invokevirtual 177, 3, 0, 0, .null), (83, .ifCond .eq 29, 3, 0, 112, .null), (86, .aload_n 0, 1, 0, 0, .null), (87, .bipush 6, 2, 0, 0, .int 6), (89, .iload 7, 2, 7, 0, .null), (91, .invokevirtual 177, 3, 0, 0, .null), (94, .ifCond .eq 18, 3, 0, 112, .null), (97, .aload_n 0, 1, 0, 0, .null), (98, .bipush 7, 2, 0, 0, .int 7), (100, .iload 8, 2, 8, 0, .null), (102, .invokevirtual 177, 3, 0, 0, .null), (105, .ifCond .eq 7, 3, 0, 112, .null), (108, .iconst 1, 1, 0, 0, .int 1), (109, .goto 4, 3, 0, 113, .null), (112, .iconst 0, 1, 0, 0, .int 0), (113, .ireturn, 1, 0, 0, .null)]
theorem ok_Mo_isWord : cd_Mo_isWord.all (mm_k M_Mo_isWord) = true := by decide +kernel
abbrev M_Mo_isSign : mm_M := (⟨"SchoolOnRaftModel", "isSign", "(I)Z"⟩, prog_14_method_24_code, 2, (some .boolean))
def cd_Mo_isSign : List mm_E := [(0, .aload_n 0, 1, 0, 0, .null), (1, .getfield 170, 3, 12, 29, .null), (4, .ifCond .ne 25, 3, 0, 29, .null), (7, .aload_n 0, 1, 0, 0, .null), (8, .getfield 153, 3, 12, 25, .null), (11, .iconst 3, 1, 0, 0, .int 3), (12, .if_icmp .ne 17, 3, 0, 29, .null), (15, .aload_n 0, 1, 0, 0, .null), (16, .getfield 164, 3, 12, 27, .null), (19, .iload_n 1, 1, 1, 0, .null), (20, .i2l, 1, 0, 0, .null), (21, .lcmp, 1, 0, 0, .null), (22, .ifCond .ne 7, 3, 0, 29, .null), (25, .iconst 1, 1, 0, 0, .int 1), (26, .goto 4, 3, 0, 30, .null), (29, .iconst 0, 1, 0, 0, .int 0), (30, .ireturn, 1, 0, 0, .null)]
theorem ok_Mo_isSign : cd_Mo_isSign.all (mm_k M_Mo_isSign) = true := by decide +kernel
abbrev M_Mo_opens : mm_M := (⟨"SchoolOnRaftModel", "opens", "()Z"⟩, prog_14_method_25_code, 1, (some .boolean))
def cd_Mo_opens : List mm_E := [(0, .aload_n 0, 1, 0, 0, .null), (1, .getfield 181, 3, 12, 28, .null), (4, .iconst 5, 1, 0, 0, .int 5), (5, .if_icmp .ne 9, 3, 0, 14, .null), (8, .aload_n 0, 1, 0, 0, .null), (9, .invokevirtual 184, 3, 0, 0, .null), (12, .iconst 0, 1, 0, 0, .int 0), (13, .ireturn, 1, 0, 0, .null), (14, .aload_n 0, 1, 0, 0, .null), (15, .dup, 1, 0, 0, .null), (16, .getfield 181, 3, 12, 28, .null), (19, .iconst 1, 1, 0, 0, .int 1), (20, .iadd, 1, 0, 0, .null), (21, .putfield 181, 3, 12, 28, .null), (24, .aload_n 0, 1, 0, 0, .null), (25, .invokevirtual 187, 3, 0, 0, .null), (28, .iconst 1, 1, 0, 0, .int 1), (29, .ireturn, 1, 0, 0, .null)]
theorem ok_Mo_opens : cd_Mo_opens.all (mm_k M_Mo_opens) = true := by decide +kernel
abbrev M_Mo_name : mm_M := (⟨"SchoolOnRaftModel", "name", "()I"⟩, prog_14_method_26_code, 1, (some .int))
def cd_Mo_name : List mm_E := [(0, .aload_n 0, 1, 0, 0, .null), (1, .bipush 98, 2, 0, 0, .int 98), (3, .bipush 101, 2, 0, 0, .int 101), (5, .bipush 110, 2, 0, 0, .int 110), (7, .bipush 100, 2, 0, 0, .int 100), (9, .iconst 0, 1, 0, 0, .int 0), (10, .iconst 0, 1, 0, 0, .int 0), (11, .iconst 0, 1, 0, 0, .int 0), (12, .iconst 0, 1, 0, 0, .int 0), (13, .invokevirtual 190, 3, 0, 0, .null), (16, .ifCond .eq 8, 3, 0, 24, .null), (19, .aload_n 0, 1, 0, 0, .null), (20, .getfield 194, 3, 12, 16, .null), (23, .ireturn, 1, 0, 0, .null), (24, .aload_n 0, 1, 0, 0, .null), (25, .bipush 99, 2, 0, 0, .int 99), (27, .bipush 104, 2, 0, 0, .int 104), (29, .bipush 105, 2, 0, 0, .int 105), (31, .bipush 108, 2, 0, 0, .int 108), (33, .bipush 100, 2, 0, 0, .int 100), (35, .iconst 0, 1, 0, 0, .int 0), (36, .iconst 0, 1, 0, 0, .int 0), (37, .iconst 0, 1, 0, 0, .int 0), (38, .invokevirtual 190, 3, 0, 0, .null), (41, .ifCond .eq 8, 3, 0, 49, .null), (44, .aload_n 0, 1, 0, 0, .null), (45, .getfield 197, 3, 12, 17, .null), (48, .ireturn, 1, 0, 0, .null), (49, .aload_n 0, 1, 0, 0, .null), (50, .bipush 108, 2, 0, 0, .int 108), (52, .bipush 101, 2, 0, 0, .int 101), (54, .bipush 115, 2, 0, 0, .int 115), (56, .bipush 115, 2, 0, 0, .int 115), (58, .bipush 111, 2, 0, 0, .int 111), (60, .bipush 110, 2, 0, 0, .int 110), (62, .iconst 0, 1, 0, 0, .int 0), (63, .iconst 0, 1, 0, 0, .int 0), (64, .invokevirtual 190, 3, 0, 0, .null), (67, .ifCond .eq 8, 3, 0, 75, .null), (70, .aload_n 0, 1, 0, 0, .null), (71, .getfield 200, 3, 12, 18, .null), (74, .ireturn, 1, 0, 0, .null), (75, .aload_n 0, 1, 0, 0, .null), (76, .bipush 107, 2, 0, 0, .int 107), (78, .bipush 110, 2, 0, 0, .int 110), (80, .bipush 111, 2, 0, 0, .int 111), (82, .bipush 119, 2, 0, 0, .int 119), (84, .bipush 110, 2, 0, 0, .int 110), (86, .iconst 0, 1, 0, 0, .int 0), (87, .iconst 0, 1, 0, 0, .int 0), (88, .iconst 0, 1, 0, 0, .int 0), (89, .invokevirtual 190, 3, 0, 0, .null), (92, .ifCond .eq 8, 3, 0, 100, .null), (95, .aload_n 0, 1, 0, 0, .null), (96, .getfield 203, 3, 12, 19, .null), (99, .ireturn, 1, 0, 0, .null), (100, .aload_n 0, 1, 0, 0, .null), (101, .bipush 97, 2, 0, 0, .int 97), (103, .bipush 103, 2, 0, 0, .int 103), (105, .bipush 101, 2, 0, 0, .int 101), (107, .iconst 0, 1, 0, 0, .int 0), (108, .iconst 0, 1, 0, 0, .int 0), (109, .iconst 0, 1, 0, 0, .int 0), (110, .iconst 0, 1, 0, 0, .int 0), (111, .iconst 0, 1, 0, 0, .int 0), (112, .invokevirtual 190, 3, 0, 0, .null), (115, .ifCond .eq 8, 3, 0, 123, .null), (118, .aload_n 0, 1, 0, 0, .null), (119, .getfield 206, 3, 12, 20, .null), (122, .ireturn, 1, 0, 0, .null), (123, .aload_n 0, 1, 0, 0, .null), (124, .bipush 111, 2, 0, 0, .int 111), (126, .bipush 102, 2, 0, 0, .int 102), (128, .bipush 116, 2, 0, 0, .int 116), (130, .bipush 101, 2, 0, 0, .int 101), (132, .bipush 110, 2, 0, 0, .int 110), (134, .iconst 0, 1, 0, 0, .int 0), (135, .iconst 0, 1, 0, 0, .int 0), (136, .iconst 0, 1, 0, 0, .int 0), (137, .invokevirtual 190, 3, 0, 0, .null), (140, .ifCond .eq 8, 3, 0, 148, .null), (143, .aload_n 0, 1, 0, 0, .null), (144, .getfield 209, 3, 12, 21, .null), (147, .ireturn, 1, 0, 0, .null), (148, .aload_n 0, 1, 0, 0, .null), (149, .invokevirtual 184, 3, 0, 0, .null), (152, .iconst 0, 1, 0, 0, .int 0), (153, .ireturn, 1, 0, 0, .null)]
theorem ok_Mo_name : cd_Mo_name.all (mm_k M_Mo_name) = true := by decide +kernel
abbrev M_Mo_atom : mm_M := (⟨"SchoolOnRaftModel", "atom", "()I"⟩, prog_14_method_27_code, 2, (some .int))
def cd_Mo_atom : List mm_E := [(0, .iconst 0, 1, 0, 0, .int 0), (1, .istore_n 1, 1, 1, 0, .null), (2, .aload_n 0, 1, 0, 0, .null), (3, .bipush 45, 2, 0, 0, .int 45), (5, .invokevirtual 212, 3, 0, 0, .null), (8, .ifCond .eq 29, 3, 0, 37, .null), (11, .aload_n 0, 1, 0, 0, .null), (12, .invokevirtual 215, 3, 0, 0, .null), (15, .ifCond .eq 146, 3, 0, 161, .null), (18, .aload_n 0, 1, 0, 0, .null), (19, .invokevirtual 219, 3, 0, 0, .null), (22, .ineg, 1, 0, 0, .null), (23, .istore_n 1, 1, 1, 0, .null), (24, .aload_n 0, 1, 0, 0, .null), (25, .dup, 1, 0, 0, .null), (26, .getfield 181, 3, 12, 28, .null), (29, .iconst 1, 1, 0, 0, .int 1), (30, .isub, 1, 0, 0, .null), (31, .putfield 181, 3, 12, 28, .null), (34, .goto 127, 3, 0, 161, .null), (37, .aload_n 0, 1, 0, 0, .null), (38, .bipush 40, 2, 0, 0, .int 40), (40, .invokevirtual 212, 3, 0, 0, .null), (43, .ifCond .eq 52, 3, 0, 95, .null), (46, .aload_n 0, 1, 0, 0, .null), (47, .invokevirtual 215, 3, 0, 0, .null), (50, .ifCond .eq 111, 3, 0, 161, .null), (53, .aload_n 0, 1, 0, 0, .null), (54, .invokevirtual 223, 3, 0, 0, .null), (57, .istore_n 1, 1, 1, 0, .null), (58, .aload_n 0, 1, 0, 0, .null), (59, .bipush 41, 2, 0, 0, .int 41), (61, .invokevirtual 212, 3, 0, 0, .null), (64, .ifCond .ne 7, 3, 0, 71, .null), (67, .aload_n 0, 1, 0, 0, .null), (68, .invokevirtual 184, 3, 0, 0, .null), (71, .aload_n 0, 1, 0, 0, .null), (72, .dup, 1, 0, 0, .null), (73, .getfield 181, 3, 12, 28, .null), (76, .iconst 1, 1, 0, 0, .int 1), (77, .isub, 1, 0, 0, .null), (78, .putfield 181, 3, 12, 28, .null), (81, .aload_n 0, 1, 0, 0, .null), (82, .getfield 170, 3, 12, 29, .null), (85, .ifCond .ne 76, 3, 0, 161, .null), (88, .aload_n 0, 1, 0, 0, .null), (89, .invokevirtual 187, 3, 0, 0, .null), (92, .goto 69, 3, 0, 161, .null), (95, .aload_n 0, 1, 0, 0, .null), (96, .getfield 170, 3, 12, 29, .null), (99, .ifCond .ne 24, 3, 0, 123, .null), (102, .aload_n 0, 1, 0, 0, .null), (103, .getfield 153, 3, 12, 25, .null), (106, .iconst 2, 1, 0, 0, .int 2), (107, .if_icmp .ne 16, 3, 0, 123, .null), (110, .aload_n 0, 1, 0, 0, .null), (111, .getfield 164, 3, 12, 27, .null), (114, .l2i, 1, 0, 0, .null), (115, .istore_n 1, 1, 1, 0, .null), (116, .aload_n 0, 1, 0, 0, .null), (117, .invokevirtual 187, 3, 0, 0, .null), (120, .goto 41, 3, 0, 161, .null), (123, .aload_n 0, 1, 0, 0, .null), (124, .getfield 170, 3, 12, 29, .null), (127, .ifCond .ne 30, 3, 0, 157, .null), (130, .aload_n 0, 1, 0, 0, .null), (131, .getfield 153, 3, 12, 25, .null), (134, .iconst 1, 1, 0, 0, .int 1), (135, .if_icmp .ne 22, 3, 0, 157, .null), (138, .aload_n 0, 1, 0, 0, .null), (139, .invokevirtual 226, 3, 0, 0, .null), (142, .istore_n 1, 1, 1, 0, .null), (143, .aload_n 0, 1, 0, 0, .null), (144, .getfield 170, 3, 12, 29, .null), (147, .ifCond .ne 14, 3, 0, 161, .null), (150, .aload_n 0, 1, 0, 0, .null), (151, .invokevirtual 187, 3, 0, 0, .null), (154, .goto 7, 3, 0, 161, .null), (157, .aload_n 0, 1, 0, 0, .null), (158, .invokevirtual 184, 3, 0, 0, .null), (161, .iload_n 1, 1, 1, 0, .null), (162, .ireturn, 1, 0, 0, .null)]
theorem ok_Mo_atom : cd_Mo_atom.all (mm_k M_Mo_atom) = true := by decide +kernel
abbrev M_Mo_term : mm_M := (⟨"SchoolOnRaftModel", "term", "()I"⟩, prog_14_method_28_code, 2, (some .int))
def cd_Mo_term : List mm_E := [(0, .aload_n 0, 1, 0, 0, .null), (1, .invokevirtual 219, 3, 0, 0, .null), (4, .istore_n 1, 1, 1, 0, .null), (5, .aload_n 0, 1, 0, 0, .null), (6, .bipush 42, 2, 0, 0, .int 42), (8, .invokevirtual 212, 3, 0, 0, .null), (11, .ifCond .eq 17, 3, 0, 28, .null), (14, .aload_n 0, 1, 0, 0, .null), (15, .invokevirtual 187, 3, 0, 0, .null), (18, .iload_n 1, 1, 1, 0, .null), (19, .aload_n 0, 1, 0, 0, .null), (20, .invokevirtual 219, 3, 0, 0, .null), (23, .imul, 1, 0, 0, .null), (24, .istore_n 1, 1, 1, 0, .null), (25, .goto (-20), 3, 0, 5, .null), (28, .iload_n 1, 1, 1, 0, .null), (29, .ireturn, 1, 0, 0, .null)]
theorem ok_Mo_term : cd_Mo_term.all (mm_k M_Mo_term) = true := by decide +kernel
abbrev M_Mo_added : mm_M := (⟨"SchoolOnRaftModel", "added", "()I"⟩, prog_14_method_29_code, 4, (some .int))
def cd_Mo_added : List mm_E := [(0, .aload_n 0, 1, 0, 0, .null), (1, .invokevirtual 229, 3, 0, 0, .null), (4, .istore_n 1, 1, 1, 0, .null), (5, .aload_n 0, 1, 0, 0, .null), (6, .bipush 43, 2, 0, 0, .int 43), (8, .invokevirtual 212, 3, 0, 0, .null), (11, .ifCond .ne 12, 3, 0, 23, .null), (14, .aload_n 0, 1, 0, 0, .null), (15, .bipush 45, 2, 0, 0, .int 45), (17, .invokevirtual 212, 3, 0, 0, .null), (20, .ifCond .eq 46, 3, 0, 66, .null), (23, .aload_n 0, 1, 0, 0, .null), (24, .getfield 164, 3, 12, 27, .null), (27, .ldc2_w 232, 3, 0, 0, .long 43), (30, .lcmp, 1, 0, 0, .null), (31, .ifCond .ne 7, 3, 0, 38, .null), (34, .iconst 1, 1, 0, 0, .int 1), (35, .goto 4, 3, 0, 39, .null), (38, .iconst 0, 1, 0, 0, .int 0), (39, .istore_n 2, 1, 2, 0, .null), (40, .aload_n 0, 1, 0, 0, .null), (41, .invokevirtual 187, 3, 0, 0, .null), (44, .aload_n 0, 1, 0, 0, .null), (45, .invokevirtual 229, 3, 0, 0, .null), (48, .istore_n 3, 1, 3, 0, .null), (49, .iload_n 2, 1, 2, 0, .null), (50, .ifCond .eq 9, 3, 0, 59, .null), (53, .iload_n 1, 1, 1, 0, .null), (54, .iload_n 3, 1, 3, 0, .null), (55, .iadd, 1, 0, 0, .null), (56, .goto 6, 3, 0, 62, .null), (59, .iload_n 1, 1, 1, 0, .null), (60, .iload_n 3, 1, 3, 0, .null), (61, .isub, 1, 0, 0, .null), (62, .istore_n 1, 1, 1, 0, .null), (63, .goto (-58), 3, 0, 5, .null), (66, .iload_n 1, 1, 1, 0, .null), (67, .ireturn, 1, 0, 0, .null)]
theorem ok_Mo_added : cd_Mo_added.all (mm_k M_Mo_added) = true := by decide +kernel
abbrev M_Mo_not : mm_M := (⟨"SchoolOnRaftModel", "not", "()I"⟩, prog_14_method_30_code, 4, (some .int))
def cd_Mo_not : List mm_E := [(0, .aload_n 0, 1, 0, 0, .null), (1, .bipush 110, 2, 0, 0, .int 110), (3, .bipush 111, 2, 0, 0, .int 111), (5, .bipush 116, 2, 0, 0, .int 116), (7, .iconst 0, 1, 0, 0, .int 0), (8, .iconst 0, 1, 0, 0, .int 0), (9, .iconst 0, 1, 0, 0, .int 0), (10, .iconst 0, 1, 0, 0, .int 0), (11, .iconst 0, 1, 0, 0, .int 0), (12, .invokevirtual 190, 3, 0, 0, .null), (15, .ifCond .eq 37, 3, 0, 52, .null), (18, .aload_n 0, 1, 0, 0, .null), (19, .invokevirtual 215, 3, 0, 0, .null), (22, .ifCond .ne 5, 3, 0, 27, .null), (25, .iconst 0, 1, 0, 0, .int 0), (26, .ireturn, 1, 0, 0, .null), (27, .aload_n 0, 1, 0, 0, .null), (28, .invokevirtual 234, 3, 0, 0, .null), (31, .istore_n 1, 1, 1, 0, .null), (32, .aload_n 0, 1, 0, 0, .null), (33, .dup, 1, 0, 0, .null), (34, .getfield 181, 3, 12, 28, .null), (37, .iconst 1, 1, 0, 0, .int 1), (38, .isub, 1, 0, 0, .null), (39, .putfield 181, 3, 12, 28, .null), (42, .iload_n 1, 1, 1, 0, .null), (43, .ifCond .ne 7, 3, 0, 50, .null), (46, .iconst 1, 1, 0, 0, .int 1), (47, .goto 4, 3, 0, 51, .null), (50, .iconst 0, 1, 0, 0, .int 0), (51, .ireturn, 1, 0, 0, .null), (52, .aload_n 0, 1, 0, 0, .null), (53, .invokevirtual 237, 3, 0, 0, .null), (56, .istore_n 1, 1, 1, 0, .null), (57, .aload_n 0, 1, 0, 0, .null), (58, .bipush 60, 2, 0, 0, .int 60), (60, .invokevirtual 212, 3, 0, 0, .null), (63, .ifCond .ne 14, 3, 0, 77, .null), (66, .aload_n 0, 1, 0, 0, .null), (67, .bipush 61, 2, 0, 0, .int 61), (69, .invokevirtual 212, 3, 0, 0, .null), (72, .ifCond .ne 5, 3, 0, 77, .null), (75, .iload_n 1, 1, 1, 0, .null), (76, .ireturn, 1, 0, 0, .null), (77, .aload_n 0, 1, 0, 0, .null), (78, .getfield 164, 3, 12, 27, .null), (81, .ldc2_w 240, 3, 0, 0, .long 60), (84, .lcmp, 1, 0, 0, .null), (85, .ifCond .ne 7, 3, 0, 92, .null), (88, .iconst 1, 1, 0, 0, .int 1), (89, .goto 4, 3, 0, 93, .null), (92, .iconst 0, 1, 0, 0, .int 0), (93, .istore_n 2, 1, 2, 0, .null), (94, .aload_n 0, 1, 0, 0, .null), (95, .invokevirtual 187, 3, 0, 0, .null), (98, .aload_n 0, 1, 0, 0, .null), (99, .invokevirtual 237, 3, 0, 0, .null), (102, .istore_n 3, 1, 3, 0, .null), (103, .iload_n 2, 1, 2, 0, .null), (104, .ifCond .eq 11, 3, 0, 115, .null), (107, .iload_n 1, 1, 1, 0, .null), (108, .iload_n 3, 1, 3, 0, .null), (109, .if_icmp .ge 15, 3, 0, 124, .null), (112, .goto 8, 3, 0, 120, .null), (115, .iload_n 1, 1, 1, 0, .null), (116, .iload_n 3, 1, 3, 0, .null), (117, .if_icmp .ne 7, 3, 0, 124, .null), (120, .iconst 1, 1, 0, 0, .int 1), (121, .goto 4, 3, 0, 125, .null), (124, .iconst 0, 1, 0, 0, .int 0), (125, .ireturn, 1, 0, 0, .null)]
theorem ok_Mo_not : cd_Mo_not.all (mm_k M_Mo_not) = true := by decide +kernel
abbrev M_Mo_both : mm_M := (⟨"SchoolOnRaftModel", "both", "()I"⟩, prog_14_method_31_code, 3, (some .int))
def cd_Mo_both : List mm_E := [(0, .aload_n 0, 1, 0, 0, .null), (1, .invokevirtual 234, 3, 0, 0, .null), (4, .istore_n 1, 1, 1, 0, .null), (5, .aload_n 0, 1, 0, 0, .null), (6, .bipush 97, 2, 0, 0, .int 97), (8, .bipush 110, 2, 0, 0, .int 110), (10, .bipush 100, 2, 0, 0, .int 100), (12, .iconst 0, 1, 0, 0, .int 0), (13, .iconst 0, 1, 0, 0, .int 0), (14, .iconst 0, 1, 0, 0, .int 0), (15, .iconst 0, 1, 0, 0, .int 0), (16, .iconst 0, 1, 0, 0, .int 0), (17, .invokevirtual 190, 3, 0, 0, .null), (20, .ifCond .eq 29, 3, 0, 49, .null), (23, .aload_n 0, 1, 0, 0, .null), (24, .invokevirtual 187, 3, 0, 0, .null), (27, .aload_n 0, 1, 0, 0, .null), (28, .invokevirtual 234, 3, 0, 0, .null), (31, .istore_n 2, 1, 2, 0, .null), (32, .iload_n 1, 1, 1, 0, .null), (33, .ifCond .eq 11, 3, 0, 44, .null), (36, .iload_n 2, 1, 2, 0, .null), (37, .ifCond .eq 7, 3, 0, 44, .null), (40, .iconst 1, 1, 0, 0, .int 1), (41, .goto 4, 3, 0, 45, .null), (44, .iconst 0, 1, 0, 0, .int 0), (45, .istore_n 1, 1, 1, 0, .null), (46, .goto (-41), 3, 0, 5, .null), (49, .iload_n 1, 1, 1, 0, .null), (50, .ireturn, 1, 0, 0, .null)]
theorem ok_Mo_both : cd_Mo_both.all (mm_k M_Mo_both) = true := by decide +kernel
abbrev M_Mo_either : mm_M := (⟨"SchoolOnRaftModel", "either", "()I"⟩, prog_14_method_32_code, 3, (some .int))
def cd_Mo_either : List mm_E := [(0, .aload_n 0, 1, 0, 0, .null), (1, .invokevirtual 242, 3, 0, 0, .null), (4, .istore_n 1, 1, 1, 0, .null), (5, .aload_n 0, 1, 0, 0, .null), (6, .bipush 111, 2, 0, 0, .int 111), (8, .bipush 114, 2, 0, 0, .int 114), (10, .iconst 0, 1, 0, 0, .int 0), (11, .iconst 0, 1, 0, 0, .int 0), (12, .iconst 0, 1, 0, 0, .int 0), (13, .iconst 0, 1, 0, 0, .int 0), (14, .iconst 0, 1, 0, 0, .int 0), (15, .iconst 0, 1, 0, 0, .int 0), (16, .invokevirtual 190, 3, 0, 0, .null), (19, .ifCond .eq 29, 3, 0, 48, .null), (22, .aload_n 0, 1, 0, 0, .null), (23, .invokevirtual 187, 3, 0, 0, .null), (26, .aload_n 0, 1, 0, 0, .null), (27, .invokevirtual 242, 3, 0, 0, .null), (30, .istore_n 2, 1, 2, 0, .null), (31, .iload_n 1, 1, 1, 0, .null), (32, .ifCond .ne 7, 3, 0, 39, .null), (35, .iload_n 2, 1, 2, 0, .null), (36, .ifCond .eq 7, 3, 0, 43, .null), (39, .iconst 1, 1, 0, 0, .int 1), (40, .goto 4, 3, 0, 44, .null), (43, .iconst 0, 1, 0, 0, .int 0), (44, .istore_n 1, 1, 1, 0, .null), (45, .goto (-40), 3, 0, 5, .null), (48, .iload_n 1, 1, 1, 0, .null), (49, .ireturn, 1, 0, 0, .null)]
theorem ok_Mo_either : cd_Mo_either.all (mm_k M_Mo_either) = true := by decide +kernel
abbrev M_Mo_part : mm_M := (⟨"SchoolOnRaftModel", "part", "(Z)I"⟩, prog_14_method_33_code, 3, (some .int))
def cd_Mo_part : List mm_E := [(0, .iload_n 1, 1, 1, 0, .null), (1, .ifCond .ne 7, 3, 0, 8, .null), (4, .aload_n 0, 1, 0, 0, .null), (5, .invokevirtual 184, 3, 0, 0, .null), (8, .aload_n 0, 1, 0, 0, .null), (9, .getfield 170, 3, 12, 29, .null), (12, .ifCond .ne 7, 3, 0, 19, .null), (15, .aload_n 0, 1, 0, 0, .null), (16, .invokevirtual 187, 3, 0, 0, .null), (19, .aload_n 0, 1, 0, 0, .null), (20, .getfield 170, 3, 12, 29, .null), (23, .ifCond .eq 7, 3, 0, 30, .null), (26, .iconst 0, 1, 0, 0, .int 0), (27, .goto 7, 3, 0, 34, .null), (30, .aload_n 0, 1, 0, 0, .null), (31, .invokevirtual 223, 3, 0, 0, .null), (34, .istore_n 2, 1, 2, 0, .null), (35, .aload_n 0, 1, 0, 0, .null), (36, .bipush 59, 2, 0, 0, .int 59), (38, .invokevirtual 212, 3, 0, 0, .null), (41, .ifCond .ne 7, 3, 0, 48, .null), (44, .aload_n 0, 1, 0, 0, .null), (45, .invokevirtual 184, 3, 0, 0, .null), (48, .aload_n 0, 1, 0, 0, .null), (49, .getfield 170, 3, 12, 29, .null), (52, .ifCond .ne 7, 3, 0, 59, .null), (55, .aload_n 0, 1, 0, 0, .null), (56, .invokevirtual 187, 3, 0, 0, .null), (59, .iload_n 2, 1, 2, 0, .null), (60, .ireturn, 1, 0, 0, .null)]
theorem ok_Mo_part : cd_Mo_part.all (mm_k M_Mo_part) = true := by decide +kernel
abbrev M_Mo_read : mm_M := (⟨"SchoolOnRaftModel", "read", "(II)I"⟩, prog_14_method_34_code, 6, (some .int))
def cd_Mo_read : List mm_E := [(0, .aload_n 0, 1, 0, 0, .null), (1, .sipush 160, 3, 0, 0, .int 160), (4, .iload_n 1, 1, 1, 0, .null), (5, .imul, 1, 0, 0, .null), (6, .putfield 141, 3, 12, 22, .null), (9, .aload_n 0, 1, 0, 0, .null), (10, .aload_n 0, 1, 0, 0, .null), (11, .getfield 17, 3, 12, 2, .null), (14, .iload_n 1, 1, 1, 0, .null), (15, .iaload, 1, 0, 0, .null), (16, .putfield 138, 3, 12, 23, .null), (19, .aload_n 0, 1, 0, 0, .null), (20, .iconst 0, 1, 0, 0, .int 0), (21, .putfield 144, 3, 12, 24, .null), (24, .aload_n 0, 1, 0, 0, .null), (25, .iconst 0, 1, 0, 0, .int 0), (26, .putfield 181, 3, 12, 28, .null), (29, .aload_n 0, 1, 0, 0, .null), (30, .iconst 0, 1, 0, 0, .int 0), (31, .putfield 170, 3, 12, 29, .null), (34, .aload_n 0, 1, 0, 0, .null), (35, .invokevirtual 187, 3, 0, 0, .null), (38, .aload_n 0, 1, 0, 0, .null), (39, .aload_n 0, 1, 0, 0, .null), (40, .bipush 104, 2, 0, 0, .int 104), (42, .bipush 101, 2, 0, 0, .int 101), (44, .bipush 97, 2, 0, 0, .int 97), (46, .bipush 114, 2, 0, 0, .int 114), (48, .bipush 115, 2, 0, 0, .int 115), (50, .iconst 0, 1, 0, 0, .int 0), (51, .iconst 0, 1, 0, 0, .int 0), (52, .iconst 0, 1, 0, 0, .int 0), (53, .invokevirtual 190, 3, 0, 0, .null), (56, .invokevirtual 245, 3, 0, 0, .null), (59, .istore_n 3, 1, 3, 0, .null), (60, .aload_n 0, 1, 0, 0, .null), (61, .getfield 170, 3, 12, 29, .null), (64, .ifCond .eq 7, 3, 0, 71, .null), (67, .iconst 0, 1, 0, 0, .int 0), (68, .goto 24, 3, 0, 92, .null), (71, .aload_n 0, 1, 0, 0, .null), (72, .aload_n 0, 1, 0, 0, .null), (73, .bipush 119, 2, 0, 0, .int 119), (75, .bipush 111, 2, 0, 0, .int 111), (77, .bipush 114, 2, 0, 0, .int 114), (79, .bipush 116, 2, 0, 0, .int 116), (81, .bipush 104, 2, 0, 0, .int 104), (83, .iconst 0, 1, 0, 0, .int 0), (84, .iconst 0, 1, 0, 0, .int 0), (85, .iconst 0, 1, 0, 0, .int 0), (86, .invokevirtual 190, 3, 0, 0, .null), (89, .invokevirtual 245, 3, 0, 0, .null), (92, .istore 4, 2, 4, 0, .null), (94, .aload_n 0, 1, 0, 0, .null), (95, .getfield 170, 3, 12, 29, .null), (98, .ifCond .eq 7, 3, 0, 105, .null), (101, .iconst 0, 1, 0, 0, .int 0), (102, .goto 23, 3, 0, 125, .null), (105, .aload_n 0, 1, 0, 0, .null), (106, .aload_n 0, 1, 0, 0, .null), (107, .bipush 114, 2, 0, 0, .int 114), (109, .bipush 117, 2, 0, 0, .int 117), (111, .bipush 110, 2, 0, 0, .int 110), (113, .bipush 115, 2, 0, 0, .int 115), (115, .iconst 0, 1, 0, 0, .int 0), (116, .iconst 0, 1, 0, 0, .int 0), (117, .iconst 0, 1, 0, 0, .int 0), (118, .iconst 0, 1, 0, 0, .int 0), (119, .invokevirtual 190, 3, 0, 0, .null), (122, .invokevirtual 245, 3, 0, 0, .null), (125, .istore 5, 2, 5, 0, .null), (127, .aload_n 0, 1, 0, 0, .null), (128, .getfield 170, 3, 12, 29, .null), (131, .ifCond .ne 14, 3, 0, 145, .null), (134, .aload_n 0, 1, 0, 0, .null), (135, .getfield 153, 3, 12, 25, .null), (138, .ifCond .eq 7, 3, 0, 145, .null), (141, .aload_n 0, 1, 0, 0, .null), (142, .invokevirtual 184, 3, 0, 0, .null), (145, .iload_n 2, 1, 2, 0, .null), (146, .ifCond .ne 7, 3, 0, 153, .null), (149, .iload_n 3, 1, 3, 0, .null), (150, .goto 15, 3, 0, 165, .null), (153, .iload_n 2, 1, 2, 0, .null), (154, .iconst 1, 1, 0, 0, .int 1), (155, .if_icmp .ne 8, 3, 0, 163, .null), (158, .iload 4, 2, 4, 0, .null), (160, .goto 5, 3, 0, 165, .null), (163, .iload 5, 2, 5, 0, .null), (165, .ireturn, 1, 0, 0, .null)]
theorem ok_Mo_read : cd_Mo_read.all (mm_k M_Mo_read) = true := by decide +kernel
abbrev M_Mo_text : mm_M := (⟨"SchoolOnRaftModel", "text", "()I"⟩, prog_14_method_35_code, 2, (some .int))
def cd_Mo_text : List mm_E := [(0, .aload_n 0, 1, 0, 0, .null), (1, .getfield 94, 3, 12, 3, .null), (4, .bipush 6, 2, 0, 0, .int 6), (6, .if_icmp .ne 6, 3, 0, 12, .null), (9, .bipush (-4), 2, 0, 0, .int (-4)), (11, .ireturn, 1, 0, 0, .null), (12, .iconst 0, 1, 0, 0, .int 0), (13, .istore_n 1, 1, 1, 0, .null), (14, .iload_n 1, 1, 1, 0, .null), (15, .aload_n 0, 1, 0, 0, .null), (16, .getfield 135, 3, 12, 6, .null), (19, .if_icmp .ge 30, 3, 0, 49, .null), (22, .aload_n 0, 1, 0, 0, .null), (23, .getfield 13, 3, 12, 1, .null), (26, .sipush 160, 3, 0, 0, .int 160), (29, .aload_n 0, 1, 0, 0, .null), (30, .getfield 94, 3, 12, 3, .null), (33, .imul, 1, 0, 0, .null), (34, .iload_n 1, 1, 1, 0, .null), (35, .iadd, 1, 0, 0, .null), (36, .aload_n 0, 1, 0, 0, .null), (37, .getfield 20, 3, 12, 5, .null), (40, .iload_n 1, 1, 1, 0, .null), (41, .iaload, 1, 0, 0, .null), (42, .iastore, 1, 0, 0, .null), (43, .iinc 1 1, 3, 1, 0, .int 1), (46, .goto (-32), 3, 0, 14, .null), (49, .aload_n 0, 1, 0, 0, .null), (50, .getfield 17, 3, 12, 2, .null), (53, .aload_n 0, 1, 0, 0, .null), (54, .getfield 94, 3, 12, 3, .null), (57, .aload_n 0, 1, 0, 0, .null), (58, .getfield 135, 3, 12, 6, .null), (61, .iastore, 1, 0, 0, .null), (62, .aload_n 0, 1, 0, 0, .null), (63, .iconst 0, 1, 0, 0, .int 0), (64, .putfield 135, 3, 12, 6, .null), (67, .aload_n 0, 1, 0, 0, .null), (68, .aload_n 0, 1, 0, 0, .null), (69, .getfield 94, 3, 12, 3, .null), (72, .iconst 0, 1, 0, 0, .int 0), (73, .invokevirtual 249, 3, 0, 0, .null), (76, .istore_n 1, 1, 1, 0, .null), (77, .aload_n 0, 1, 0, 0, .null), (78, .getfield 170, 3, 12, 29, .null), (81, .ifCond .eq 11, 3, 0, 92, .null), (84, .bipush (-100), 2, 0, 0, .int (-100)), (86, .aload_n 0, 1, 0, 0, .null), (87, .getfield 174, 3, 12, 30, .null), (90, .isub, 1, 0, 0, .null), (91, .ireturn, 1, 0, 0, .null), (92, .aload_n 0, 1, 0, 0, .null), (93, .dup, 1, 0, 0, .null), (94, .getfield 94, 3, 12, 3, .null), (97, .iconst 1, 1, 0, 0, .int 1), (98, .iadd, 1, 0, 0, .null), (99, .putfield 94, 3, 12, 3, .null), (102, .aload_n 0, 1, 0, 0, .null), (103, .getfield 94, 3, 12, 3, .null), (106, .iconst 1, 1, 0, 0, .int 1), (107, .isub, 1, 0, 0, .null), (108, .ireturn, 1, 0, 0, .null)]
theorem ok_Mo_text : cd_Mo_text.all (mm_k M_Mo_text) = true := by decide +kernel
abbrev M_Mo_force : mm_M := (⟨"SchoolOnRaftModel", "force", "(I)I"⟩, prog_14_method_36_code, 3, (some .int))
def cd_Mo_force : List mm_E := [(0, .iload_n 1, 1, 1, 0, .null), (1, .i2l, 1, 0, 0, .null), (2, .lconst 0, 1, 0, 0, .long 0), (3, .aload_n 0, 1, 0, 0, .null), (4, .getfield 94, 3, 12, 3, .null), (7, .iconst 1, 1, 0, 0, .int 1), (8, .isub, 1, 0, 0, .null), (9, .i2l, 1, 0, 0, .null), (10, .invokestatic 100, 3, 0, 0, .null), (13, .ifCond .ne 6, 3, 0, 19, .null), (16, .bipush (-2), 2, 0, 0, .int (-2)), (18, .ireturn, 1, 0, 0, .null), (19, .aload_n 0, 1, 0, 0, .null), (20, .getfield 253, 3, 12, 4, .null), (23, .istore_n 2, 1, 2, 0, .null), (24, .aload_n 0, 1, 0, 0, .null), (25, .iload_n 1, 1, 1, 0, .null), (26, .putfield 253, 3, 12, 4, .null), (29, .iload_n 2, 1, 2, 0, .null), (30, .ireturn, 1, 0, 0, .null)]
theorem ok_Mo_force : cd_Mo_force.all (mm_k M_Mo_force) = true := by decide +kernel
end
section
/-! ===== code, written by program out of the listing ===== -/
abbrev M_Mo_says : mm_M := (⟨"SchoolOnRaftModel", "says", "(IIIIII)I"⟩, prog_14_method_37_code, 7, (some .int))
def cd_Mo_says : List mm_E := [(0, .aload_n 0, 1, 0, 0, .null), (1, .iload_n 2, 1, 2, 0, .null), (2, .putfield 194, 3, 12, 16, .null), (5, .aload_n 0, 1, 0, 0, .null), (6, .iload_n 3, 1, 3, 0, .null), (7, .putfield 197, 3, 12, 17, .null), (10, .aload_n 0, 1, 0, 0, .null), (11, .iload 4, 2, 4, 0, .null), (13, .putfield 200, 3, 12, 18, .null), (16, .aload_n 0, 1, 0, 0, .null), (17, .iload 5, 2, 5, 0, .null), (19, .putfield 203, 3, 12, 19, .null), (22, .aload_n 0, 1, 0, 0, .null), (23, .aload_n 0, 1, 0, 0, .null), (24, .getfield 38, 3, 12, 13, .null), (27, .iload_n 3, 1, 3, 0, .null), (28, .iaload, 1, 0, 0, .null), (29, .putfield 206, 3, 12, 20, .null), (32, .aload_n 0, 1, 0, 0, .null), (33, .iload 6, 2, 6, 0, .null), (35, .putfield 209, 3, 12, 21, .null), (38, .aload_n 0, 1, 0, 0, .null), (39, .aload_n 0, 1, 0, 0, .null), (40, .getfield 253, 3, 12, 4, .null), (43, .iload_n 1, 1, 1, 0, .null), (44, .invokevirtual 249, 3, 0, 0, .null), (47, .ireturn, 1, 0, 0, .null)]
theorem ok_Mo_says : cd_Mo_says.all (mm_k M_Mo_says) = true := by decide +kernel
abbrev M_Mo_forgets : mm_M := (⟨"SchoolOnRaftModel", "forgets", "()V"⟩, prog_14_method_38_code, 2, none)
def cd_Mo_forgets : List mm_E := [(0, .iconst 0, 1, 0, 0, .int 0), (1, .istore_n 1, 1, 1, 0, .null), (2, .iload_n 1, 1, 1, 0, .null), (3, .sipush 5040, 3, 0, 0, .int 5040), (6, .if_icmp .ge 16, 3, 0, 22, .null), (9, .aload_n 0, 1, 0, 0, .null), (10, .getfield 44, 3, 12, 31, .null), (13, .iload_n 1, 1, 1, 0, .null), (14, .iconst (-1), 1, 0, 0, .int (-1)), (15, .iastore, 1, 0, 0, .null), (16, .iinc 1 1, 3, 1, 0, .int 1), (19, .goto (-17), 3, 0, 2, .null), (22, .iconst 0, 1, 0, 0, .int 0), (23, .istore_n 1, 1, 1, 0, .null), (24, .iload_n 1, 1, 1, 0, .null), (25, .sipush 840, 3, 0, 0, .int 840), (28, .if_icmp .ge 18, 3, 0, 46, .null), (31, .aload_n 0, 1, 0, 0, .null), (32, .getfield 47, 3, 12, 32, .null), (35, .iload_n 1, 1, 1, 0, .null), (36, .sipush 1000, 3, 0, 0, .int 1000), (39, .iastore, 1, 0, 0, .null), (40, .iinc 1 1, 3, 1, 0, .int 1), (43, .goto (-19), 3, 0, 24, .null), (46, .return_, 1, 0, 0, .null)]
theorem ok_Mo_forgets : cd_Mo_forgets.all (mm_k M_Mo_forgets) = true := by decide +kernel
abbrev M_Mo_hears : mm_M := (⟨"SchoolOnRaftModel", "hears", "(IIIII)Z"⟩, prog_14_method_39_code, 7, (some .boolean))
def cd_Mo_hears : List mm_E := [(0, .iload_n 1, 1, 1, 0, .null), (1, .bipush 6, 2, 0, 0, .int 6), (3, .imul, 1, 0, 0, .null), (4, .iload_n 2, 1, 2, 0, .null), (5, .iadd, 1, 0, 0, .null), (6, .iconst 4, 1, 0, 0, .int 4), (7, .imul, 1, 0, 0, .null), (8, .iload_n 3, 1, 3, 0, .null), (9, .iadd, 1, 0, 0, .null), (10, .iconst 5, 1, 0, 0, .int 5), (11, .imul, 1, 0, 0, .null), (12, .iload 4, 2, 4, 0, .null), (14, .iadd, 1, 0, 0, .null), (15, .bipush 7, 2, 0, 0, .int 7), (17, .imul, 1, 0, 0, .null), (18, .iload 5, 2, 5, 0, .null), (20, .iadd, 1, 0, 0, .null), (21, .istore 6, 2, 6, 0, .null), (23, .aload_n 0, 1, 0, 0, .null), (24, .getfield 44, 3, 12, 31, .null), (27, .iload 6, 2, 6, 0, .null), (29, .iaload, 1, 0, 0, .null), (30, .iconst (-1), 1, 0, 0, .int (-1)), (31, .if_icmp .ne 30, 3, 0, 61, .null), (34, .aload_n 0, 1, 0, 0, .null), (35, .getfield 44, 3, 12, 31, .null), (38, .iload 6, 2, 6, 0, .null), (40, .aload_n 0, 1, 0, 0, .null), (41, .iconst 0, 1, 0, 0, .int 0), (42, .iload_n 1, 1, 1, 0, .null), (43, .iload_n 2, 1, 2, 0, .null), (44, .iload_n 3, 1, 3, 0, .null), (45, .iload 4, 2, 4, 0, .null), (47, .iload 5, 2, 5, 0, .null), (49, .invokevirtual 256, 3, 0, 0, .null), (52, .ifCond .eq 7, 3, 0, 59, .null), (55, .iconst 1, 1, 0, 0, .int 1), (56, .goto 4, 3, 0, 60, .null), (59, .iconst 0, 1, 0, 0, .int 0), (60, .iastore, 1, 0, 0, .null), (61, .aload_n 0, 1, 0, 0, .null), (62, .getfield 44, 3, 12, 31, .null), (65, .iload 6, 2, 6, 0, .null), (67, .iaload, 1, 0, 0, .null), (68, .iconst 1, 1, 0, 0, .int 1), (69, .if_icmp .ne 7, 3, 0, 76, .null), (72, .iconst 1, 1, 0, 0, .int 1), (73, .goto 4, 3, 0, 77, .null), (76, .iconst 0, 1, 0, 0, .int 0), (77, .ireturn, 1, 0, 0, .null)]
theorem ok_Mo_hears : cd_Mo_hears.all (mm_k M_Mo_hears) = true := by decide +kernel
abbrev M_Mo_worth : mm_M := (⟨"SchoolOnRaftModel", "worth", "(IIII)I"⟩, prog_14_method_40_code, 6, (some .int))
def cd_Mo_worth : List mm_E := [(0, .iload_n 1, 1, 1, 0, .null), (1, .iconst 4, 1, 0, 0, .int 4), (2, .imul, 1, 0, 0, .null), (3, .iload_n 2, 1, 2, 0, .null), (4, .iadd, 1, 0, 0, .null), (5, .iconst 5, 1, 0, 0, .int 5), (6, .imul, 1, 0, 0, .null), (7, .iload_n 3, 1, 3, 0, .null), (8, .iadd, 1, 0, 0, .null), (9, .bipush 7, 2, 0, 0, .int 7), (11, .imul, 1, 0, 0, .null), (12, .iload 4, 2, 4, 0, .null), (14, .iadd, 1, 0, 0, .null), (15, .istore 5, 2, 5, 0, .null), (17, .aload_n 0, 1, 0, 0, .null), (18, .getfield 47, 3, 12, 32, .null), (21, .iload 5, 2, 5, 0, .null), (23, .iaload, 1, 0, 0, .null), (24, .sipush 1000, 3, 0, 0, .int 1000), (27, .if_icmp .ne 28, 3, 0, 55, .null), (30, .aload_n 0, 1, 0, 0, .null), (31, .getfield 47, 3, 12, 32, .null), (34, .iload 5, 2, 5, 0, .null), (36, .aload_n 0, 1, 0, 0, .null), (37, .iconst 1, 1, 0, 0, .int 1), (38, .iconst 5, 1, 0, 0, .int 5), (39, .iload_n 1, 1, 1, 0, .null), (40, .iload_n 2, 1, 2, 0, .null), (41, .iload_n 3, 1, 3, 0, .null), (42, .iload 4, 2, 4, 0, .null), (44, .invokevirtual 256, 3, 0, 0, .null), (47, .bipush (-99), 2, 0, 0, .int (-99)), (49, .bipush 99, 2, 0, 0, .int 99), (51, .invokestatic 260, 3, 0, 0, .null), (54, .iastore, 1, 0, 0, .null), (55, .aload_n 0, 1, 0, 0, .null), (56, .getfield 47, 3, 12, 32, .null), (59, .iload 5, 2, 5, 0, .null), (61, .iaload, 1, 0, 0, .null), (62, .ireturn, 1, 0, 0, .null)]
theorem ok_Mo_worth : cd_Mo_worth.all (mm_k M_Mo_worth) = true := by decide +kernel
abbrev M_Mo_begins : mm_M := (⟨"SchoolOnRaftModel", "begins", "()V"⟩, prog_14_method_41_code, 2, none)
def cd_Mo_begins : List mm_E := [(0, .iconst 0, 1, 0, 0, .int 0), (1, .istore_n 1, 1, 1, 0, .null), (2, .iload_n 1, 1, 1, 0, .null), (3, .iconst 4, 1, 0, 0, .int 4), (4, .if_icmp .ge 23, 3, 0, 27, .null), (7, .aload_n 0, 1, 0, 0, .null), (8, .getfield 50, 3, 12, 33, .null), (11, .iload_n 1, 1, 1, 0, .null), (12, .iconst 0, 1, 0, 0, .int 0), (13, .iastore, 1, 0, 0, .null), (14, .aload_n 0, 1, 0, 0, .null), (15, .getfield 53, 3, 12, 34, .null), (18, .iload_n 1, 1, 1, 0, .null), (19, .iconst (-1), 1, 0, 0, .int (-1)), (20, .iastore, 1, 0, 0, .null), (21, .iinc 1 1, 3, 1, 0, .int 1), (24, .goto (-22), 3, 0, 2, .null), (27, .return_, 1, 0, 0, .null)]
theorem ok_Mo_begins : cd_Mo_begins.all (mm_k M_Mo_begins) = true := by decide +kernel
abbrev M_Mo_hasBy : mm_M := (⟨"SchoolOnRaftModel", "hasBy", "(II)I"⟩, prog_14_method_42_code, 6, (some .int))
def cd_Mo_hasBy : List mm_E := [(0, .iconst 0, 1, 0, 0, .int 0), (1, .istore_n 3, 1, 3, 0, .null), (2, .iconst 0, 1, 0, 0, .int 0), (3, .istore 4, 2, 4, 0, .null), (5, .iload 4, 2, 4, 0, .null), (7, .aload_n 0, 1, 0, 0, .null), (8, .getfield 97, 3, 12, 10, .null), (11, .if_icmp .ge 52, 3, 0, 63, .null), (14, .aload_n 0, 1, 0, 0, .null), (15, .getfield 53, 3, 12, 34, .null), (18, .iconst 4, 1, 0, 0, .int 4), (19, .iload_n 1, 1, 1, 0, .null), (20, .imul, 1, 0, 0, .null), (21, .iload 4, 2, 4, 0, .null), (23, .iadd, 1, 0, 0, .null), (24, .iaload, 1, 0, 0, .null), (25, .istore 5, 2, 5, 0, .null), (27, .iload_n 3, 1, 3, 0, .null), (28, .iload 5, 2, 5, 0, .null), (30, .iconst (-1), 1, 0, 0, .int (-1)), (31, .if_icmp .eq 20, 3, 0, 51, .null), (34, .aload_n 0, 1, 0, 0, .null), (35, .iload 4, 2, 4, 0, .null), (37, .iload_n 2, 1, 2, 0, .null), (38, .iload 5, 2, 5, 0, .null), (40, .isub, 1, 0, 0, .null), (41, .invokevirtual 264, 3, 0, 0, .null), (44, .ifCond .eq 7, 3, 0, 51, .null), (47, .iconst 1, 1, 0, 0, .int 1), (48, .goto 4, 3, 0, 52, .null), (51, .iconst 0, 1, 0, 0, .int 0), (52, .iload 4, 2, 4, 0, .null), (54, .ishl, 1, 0, 0, .null), (55, .ior, 1, 0, 0, .null), (56, .istore_n 3, 1, 3, 0, .null), (57, .iinc 4 1, 3, 4, 0, .int 1), (60, .goto (-55), 3, 0, 5, .null), (63, .iload_n 3, 1, 3, 0, .null), (64, .ireturn, 1, 0, 0, .null)]
theorem ok_Mo_hasBy : cd_Mo_hasBy.all (mm_k M_Mo_hasBy) = true := by decide +kernel
abbrev M_Mo_passes : mm_M := (⟨"SchoolOnRaftModel", "passes", "(IIIZ)V"⟩, prog_14_method_43_code, 7, none)
def cd_Mo_passes : List mm_E := [(0, .iconst 0, 1, 0, 0, .int 0), (1, .istore 5, 2, 5, 0, .null), (3, .iload 5, 2, 5, 0, .null), (5, .iconst 4, 1, 0, 0, .int 4), (6, .if_icmp .ge 57, 3, 0, 63, .null), (9, .aload_n 0, 1, 0, 0, .null), (10, .getfield 50, 3, 12, 33, .null), (13, .iconst 4, 1, 0, 0, .int 4), (14, .iload_n 1, 1, 1, 0, .null), (15, .iconst 1, 1, 0, 0, .int 1), (16, .iadd, 1, 0, 0, .null), (17, .imul, 1, 0, 0, .null), (18, .iload 5, 2, 5, 0, .null), (20, .iadd, 1, 0, 0, .null), (21, .aload_n 0, 1, 0, 0, .null), (22, .getfield 50, 3, 12, 33, .null), (25, .iconst 4, 1, 0, 0, .int 4), (26, .iload_n 1, 1, 1, 0, .null), (27, .imul, 1, 0, 0, .null), (28, .iload 5, 2, 5, 0, .null), (30, .iadd, 1, 0, 0, .null), (31, .iaload, 1, 0, 0, .null), (32, .iastore, 1, 0, 0, .null), (33, .aload_n 0, 1, 0, 0, .null), (34, .getfield 53, 3, 12, 34, .null), (37, .iconst 4, 1, 0, 0, .int 4), (38, .iload_n 1, 1, 1, 0, .null), (39, .iconst 1, 1, 0, 0, .int 1), (40, .iadd, 1, 0, 0, .null), (41, .imul, 1, 0, 0, .null), (42, .iload 5, 2, 5, 0, .null), (44, .iadd, 1, 0, 0, .null), (45, .aload_n 0, 1, 0, 0, .null), (46, .getfield 53, 3, 12, 34, .null), (49, .iconst 4, 1, 0, 0, .int 4), (50, .iload_n 1, 1, 1, 0, .null), (51, .imul, 1, 0, 0, .null), (52, .iload 5, 2, 5, 0, .null), (54, .iadd, 1, 0, 0, .null), (55, .iaload, 1, 0, 0, .null), (56, .iastore, 1, 0, 0, .null), (57, .iinc 5 1, 3, 5, 0, .int 1), (60, .goto (-57), 3, 0, 3, .null), (63, .iload_n 3, 1, 3, 0, .null), (64, .iconst (-1), 1, 0, 0, .int (-1)), (65, .if_icmp .eq 8, 3, 0, 73, .null), (68, .iload 4, 2, 4, 0, .null), (70, .ifCond .ne 4, 3, 0, 74, .null), (73, .return_, 1, 0, 0, .null), (74, .aload_n 0, 1, 0, 0, .null), (75, .iload_n 1, 1, 1, 0, .null), (76, .iload_n 1, 1, 1, 0, .null), (77, .invokevirtual 267, 3, 0, 0, .null), (80, .istore 5, 2, 5, 0, .null), (82, .aload_n 0, 1, 0, 0, .null), (83, .getfield 50, 3, 12, 33, .null), (86, .iconst 4, 1, 0, 0, .int 4), (87, .iload_n 1, 1, 1, 0, .null), (88, .imul, 1, 0, 0, .null), (89, .iload_n 3, 1, 3, 0, .null), (90, .iadd, 1, 0, 0, .null), (91, .iaload, 1, 0, 0, .null), (92, .istore 6, 2, 6, 0, .null), (94, .aload_n 0, 1, 0, 0, .null), (95, .iload_n 1, 1, 1, 0, .null), (96, .iload_n 2, 1, 2, 0, .null), (97, .iload_n 3, 1, 3, 0, .null), (98, .iload 5, 2, 5, 0, .null), (100, .invokestatic 270, 3, 0, 0, .null), (103, .iload 6, 2, 6, 0, .null), (105, .invokevirtual 273, 3, 0, 0, .null), (108, .ifCond .ne 4, 3, 0, 112, .null), (111, .return_, 1, 0, 0, .null), (112, .aload_n 0, 1, 0, 0, .null), (113, .getfield 50, 3, 12, 33, .null), (116, .iconst 4, 1, 0, 0, .int 4), (117, .iload_n 1, 1, 1, 0, .null), (118, .iconst 1, 1, 0, 0, .int 1), (119, .iadd, 1, 0, 0, .null), (120, .imul, 1, 0, 0, .null), (121, .iload_n 3, 1, 3, 0, .null), (122, .iadd, 1, 0, 0, .null), (123, .iload 6, 2, 6, 0, .null), (125, .iconst 1, 1, 0, 0, .int 1), (126, .iadd, 1, 0, 0, .null), (127, .iastore, 1, 0, 0, .null), (128, .iload 6, 2, 6, 0, .null), (130, .iconst 1, 1, 0, 0, .int 1), (131, .iadd, 1, 0, 0, .null), (132, .aload_n 0, 1, 0, 0, .null), (133, .iload_n 3, 1, 3, 0, .null), (134, .invokevirtual 126, 3, 0, 0, .null), (137, .if_icmp .lt 43, 3, 0, 180, .null), (140, .iload 5, 2, 5, 0, .null), (142, .aload_n 0, 1, 0, 0, .null), (143, .getfield 29, 3, 12, 9, .null), (146, .iload_n 3, 1, 3, 0, .null), (147, .iaload, 1, 0, 0, .null), (148, .iand, 1, 0, 0, .null), (149, .aload_n 0, 1, 0, 0, .null), (150, .getfield 29, 3, 12, 9, .null), (153, .iload_n 3, 1, 3, 0, .null), (154, .iaload, 1, 0, 0, .null), (155, .if_icmp .ne 25, 3, 0, 180, .null), (158, .iload 5, 2, 5, 0, .null), (160, .iload_n 3, 1, 3, 0, .null), (161, .ishr, 1, 0, 0, .null), (162, .iconst 1, 1, 0, 0, .int 1), (163, .iand, 1, 0, 0, .null), (164, .ifCond .ne 16, 3, 0, 180, .null), (167, .aload_n 0, 1, 0, 0, .null), (168, .getfield 53, 3, 12, 34, .null), (171, .iconst 4, 1, 0, 0, .int 4), (172, .iload_n 1, 1, 1, 0, .null), (173, .iconst 1, 1, 0, 0, .int 1), (174, .iadd, 1, 0, 0, .null), (175, .imul, 1, 0, 0, .null), (176, .iload_n 3, 1, 3, 0, .null), (177, .iadd, 1, 0, 0, .null), (178, .iload_n 1, 1, 1, 0, .null), (179, .iastore, 1, 0, 0, .null), (180, .return_, 1, 0, 0, .null)]
theorem ok_Mo_passes : cd_Mo_passes.all (mm_k M_Mo_passes) = true := by decide +kernel
abbrev M_Mo_spring : mm_M := (⟨"SchoolOnRaftModel", "spring", "(III)V"⟩, prog_14_method_44_code, 5, none)
def cd_Mo_spring : List mm_E := [(0, .aload_n 0, 1, 0, 0, .null), (1, .invokevirtual 277, 3, 0, 0, .null), (4, .iconst 0, 1, 0, 0, .int 0), (5, .istore 4, 2, 4, 0, .null), (7, .iload 4, 2, 4, 0, .null), (9, .bipush 6, 2, 0, 0, .int 6), (11, .if_icmp .ge 50, 3, 0, 61, .null), (14, .aload_n 0, 1, 0, 0, .null), (15, .iload 4, 2, 4, 0, .null), (17, .iload_n 1, 1, 1, 0, .null), (18, .aload_n 0, 1, 0, 0, .null), (19, .getfield 56, 3, 12, 35, .null), (22, .iload 4, 2, 4, 0, .null), (24, .iaload, 1, 0, 0, .null), (25, .iload 4, 2, 4, 0, .null), (27, .i2l, 1, 0, 0, .null), (28, .iload_n 2, 1, 2, 0, .null), (29, .i2l, 1, 0, 0, .null), (30, .iload_n 3, 1, 3, 0, .null), (31, .i2l, 1, 0, 0, .null), (32, .invokestatic 100, 3, 0, 0, .null), (35, .invokevirtual 280, 3, 0, 0, .null), (38, .aload_n 0, 1, 0, 0, .null), (39, .getfield 59, 3, 12, 36, .null), (42, .iload 4, 2, 4, 0, .null), (44, .aload_n 0, 1, 0, 0, .null), (45, .iload 4, 2, 4, 0, .null), (47, .iconst 1, 1, 0, 0, .int 1), (48, .iadd, 1, 0, 0, .null), (49, .iload 4, 2, 4, 0, .null), (51, .invokevirtual 267, 3, 0, 0, .null), (54, .iastore, 1, 0, 0, .null), (55, .iinc 4 1, 3, 4, 0, .int 1), (58, .goto (-51), 3, 0, 7, .null), (61, .return_, 1, 0, 0, .null)]
theorem ok_Mo_spring : cd_Mo_spring.all (mm_k M_Mo_spring) = true := by decide +kernel
abbrev M_Mo_endPoints : mm_M := (⟨"SchoolOnRaftModel", "endPoints", "(I)I"⟩, prog_14_method_45_code, 6, (some .int))
def cd_Mo_endPoints : List mm_E := [(0, .aload_n 0, 1, 0, 0, .null), (1, .bipush 6, 2, 0, 0, .int 6), (3, .iconst 5, 1, 0, 0, .int 5), (4, .invokevirtual 267, 3, 0, 0, .null), (7, .istore_n 2, 1, 2, 0, .null), (8, .iconst 0, 1, 0, 0, .int 0), (9, .istore_n 3, 1, 3, 0, .null), (10, .iconst 0, 1, 0, 0, .int 0), (11, .istore 4, 2, 4, 0, .null), (13, .iload 4, 2, 4, 0, .null), (15, .aload_n 0, 1, 0, 0, .null), (16, .getfield 97, 3, 12, 10, .null), (19, .if_icmp .ge 63, 3, 0, 82, .null), (22, .iload_n 2, 1, 2, 0, .null), (23, .iload 4, 2, 4, 0, .null), (25, .ishr, 1, 0, 0, .null), (26, .iconst 1, 1, 0, 0, .int 1), (27, .iand, 1, 0, 0, .null), (28, .iconst 1, 1, 0, 0, .int 1), (29, .if_icmp .ne 47, 3, 0, 76, .null), (32, .aload_n 0, 1, 0, 0, .null), (33, .iload 4, 2, 4, 0, .null), (35, .invokevirtual 130, 3, 0, 0, .null), (38, .aload_n 0, 1, 0, 0, .null), (39, .iload_n 1, 1, 1, 0, .null), (40, .iload 4, 2, 4, 0, .null), (42, .iload_n 2, 1, 2, 0, .null), (43, .invokestatic 270, 3, 0, 0, .null), (46, .aload_n 0, 1, 0, 0, .null), (47, .getfield 50, 3, 12, 33, .null), (50, .bipush 24, 2, 0, 0, .int 24), (52, .iload 4, 2, 4, 0, .null), (54, .iadd, 1, 0, 0, .null), (55, .iaload, 1, 0, 0, .null), (56, .invokevirtual 284, 3, 0, 0, .null), (59, .iadd, 1, 0, 0, .null), (60, .istore 5, 2, 5, 0, .null), (62, .iload_n 3, 1, 3, 0, .null), (63, .iload 5, 2, 5, 0, .null), (65, .ifCond .ge 7, 3, 0, 72, .null), (68, .iconst 0, 1, 0, 0, .int 0), (69, .goto 5, 3, 0, 74, .null), (72, .iload 5, 2, 5, 0, .null), (74, .iadd, 1, 0, 0, .null), (75, .istore_n 3, 1, 3, 0, .null), (76, .iinc 4 1, 3, 4, 0, .int 1), (79, .goto (-66), 3, 0, 13, .null), (82, .iload_n 3, 1, 3, 0, .null), (83, .ireturn, 1, 0, 0, .null)]
theorem ok_Mo_endPoints : cd_Mo_endPoints.all (mm_k M_Mo_endPoints) = true := by decide +kernel
abbrev M_Mo_takesPlan : mm_M := (⟨"SchoolOnRaftModel", "takesPlan", "()V"⟩, prog_14_method_46_code, 2, none)
def cd_Mo_takesPlan : List mm_E := [(0, .iconst 0, 1, 0, 0, .int 0), (1, .istore_n 1, 1, 1, 0, .null), (2, .iload_n 1, 1, 1, 0, .null), (3, .bipush 6, 2, 0, 0, .int 6), (5, .if_icmp .ge 21, 3, 0, 26, .null), (8, .aload_n 0, 1, 0, 0, .null), (9, .getfield 56, 3, 12, 35, .null), (12, .iload_n 1, 1, 1, 0, .null), (13, .aload_n 0, 1, 0, 0, .null), (14, .getfield 41, 3, 12, 15, .null), (17, .iload_n 1, 1, 1, 0, .null), (18, .iaload, 1, 0, 0, .null), (19, .iastore, 1, 0, 0, .null), (20, .iinc 1 1, 3, 1, 0, .int 1), (23, .goto (-21), 3, 0, 2, .null), (26, .return_, 1, 0, 0, .null)]
theorem ok_Mo_takesPlan : cd_Mo_takesPlan.all (mm_k M_Mo_takesPlan) = true := by decide +kernel
abbrev M_Mo_pointsBy : mm_M := (⟨"SchoolOnRaftModel", "pointsBy", "(I)I"⟩, prog_14_method_47_code, 2, (some .int))
def cd_Mo_pointsBy : List mm_E := [(0, .aload_n 0, 1, 0, 0, .null), (1, .iload_n 1, 1, 1, 0, .null), (2, .aload_n 0, 1, 0, 0, .null), (3, .getfield 32, 3, 12, 11, .null), (6, .iload_n 1, 1, 1, 0, .null), (7, .iaload, 1, 0, 0, .null), (8, .aload_n 0, 1, 0, 0, .null), (9, .getfield 35, 3, 12, 12, .null), (12, .iload_n 1, 1, 1, 0, .null), (13, .iaload, 1, 0, 0, .null), (14, .invokevirtual 288, 3, 0, 0, .null), (17, .aload_n 0, 1, 0, 0, .null), (18, .iload_n 1, 1, 1, 0, .null), (19, .invokevirtual 292, 3, 0, 0, .null), (22, .ireturn, 1, 0, 0, .null)]
theorem ok_Mo_pointsBy : cd_Mo_pointsBy.all (mm_k M_Mo_pointsBy) = true := by decide +kernel
abbrev M_Mo_allPoints : mm_M := (⟨"SchoolOnRaftModel", "allPoints", "()I"⟩, prog_14_method_48_code, 3, (some .int))
def cd_Mo_allPoints : List mm_E := [(0, .iconst 0, 1, 0, 0, .int 0), (1, .istore_n 1, 1, 1, 0, .null), (2, .iconst 0, 1, 0, 0, .int 0), (3, .istore_n 2, 1, 2, 0, .null), (4, .iload_n 2, 1, 2, 0, .null), (5, .aload_n 0, 1, 0, 0, .null), (6, .getfield 104, 3, 12, 14, .null), (9, .if_icmp .ge 17, 3, 0, 26, .null), (12, .iload_n 1, 1, 1, 0, .null), (13, .aload_n 0, 1, 0, 0, .null), (14, .iload_n 2, 1, 2, 0, .null), (15, .invokevirtual 295, 3, 0, 0, .null), (18, .iadd, 1, 0, 0, .null), (19, .istore_n 1, 1, 1, 0, .null), (20, .iinc 2 1, 3, 2, 0, .int 1), (23, .goto (-19), 3, 0, 4, .null), (26, .iload_n 1, 1, 1, 0, .null), (27, .ireturn, 1, 0, 0, .null)]
theorem ok_Mo_allPoints : cd_Mo_allPoints.all (mm_k M_Mo_allPoints) = true := by decide +kernel
abbrev M_Mo_has : mm_M := (⟨"SchoolOnRaftModel", "has", "(II)I"⟩, prog_14_method_49_code, 3, (some .int))
def cd_Mo_has : List mm_E := [(0, .aload_n 0, 1, 0, 0, .null), (1, .iload_n 1, 1, 1, 0, .null), (2, .invokevirtual 121, 3, 0, 0, .null), (5, .ifCond .eq 15, 3, 0, 20, .null), (8, .iload_n 2, 1, 2, 0, .null), (9, .i2l, 1, 0, 0, .null), (10, .lconst 0, 1, 0, 0, .long 0), (11, .ldc2_w 107, 3, 0, 0, .long 5), (14, .invokestatic 100, 3, 0, 0, .null), (17, .ifCond .ne 6, 3, 0, 23, .null), (20, .bipush (-2), 2, 0, 0, .int (-2)), (22, .ireturn, 1, 0, 0, .null), (23, .aload_n 0, 1, 0, 0, .null), (24, .invokevirtual 298, 3, 0, 0, .null), (27, .aload_n 0, 1, 0, 0, .null), (28, .invokevirtual 301, 3, 0, 0, .null), (31, .aload_n 0, 1, 0, 0, .null), (32, .iload_n 1, 1, 1, 0, .null), (33, .aload_n 0, 1, 0, 0, .null), (34, .getfield 32, 3, 12, 11, .null), (37, .iload_n 1, 1, 1, 0, .null), (38, .iaload, 1, 0, 0, .null), (39, .aload_n 0, 1, 0, 0, .null), (40, .getfield 35, 3, 12, 12, .null), (43, .iload_n 1, 1, 1, 0, .null), (44, .iaload, 1, 0, 0, .null), (45, .invokevirtual 288, 3, 0, 0, .null), (48, .aload_n 0, 1, 0, 0, .null), (49, .getfield 59, 3, 12, 36, .null), (52, .iload_n 2, 1, 2, 0, .null), (53, .iaload, 1, 0, 0, .null), (54, .ireturn, 1, 0, 0, .null)]
theorem ok_Mo_has : cd_Mo_has.all (mm_k M_Mo_has) = true := by decide +kernel
abbrev M_Mo_heard : mm_M := (⟨"SchoolOnRaftModel", "heard", "(III)I"⟩, prog_14_method_50_code, 4, (some .int))
def cd_Mo_heard : List mm_E := [(0, .aload_n 0, 1, 0, 0, .null), (1, .iload_n 1, 1, 1, 0, .null), (2, .invokevirtual 121, 3, 0, 0, .null), (5, .ifCond .eq 21, 3, 0, 26, .null), (8, .aload_n 0, 1, 0, 0, .null), (9, .iload_n 2, 1, 2, 0, .null), (10, .invokevirtual 117, 3, 0, 0, .null), (13, .ifCond .eq 13, 3, 0, 26, .null), (16, .iload_n 3, 1, 3, 0, .null), (17, .i2l, 1, 0, 0, .null), (18, .lconst 0, 1, 0, 0, .long 0), (19, .lconst 1, 1, 0, 0, .long 1), (20, .invokestatic 100, 3, 0, 0, .null), (23, .ifCond .ne 6, 3, 0, 29, .null), (26, .bipush (-2), 2, 0, 0, .int (-2)), (28, .ireturn, 1, 0, 0, .null), (29, .aload_n 0, 1, 0, 0, .null), (30, .invokevirtual 298, 3, 0, 0, .null), (33, .aload_n 0, 1, 0, 0, .null), (34, .invokevirtual 301, 3, 0, 0, .null), (37, .aload_n 0, 1, 0, 0, .null), (38, .iload_n 1, 1, 1, 0, .null), (39, .aload_n 0, 1, 0, 0, .null), (40, .getfield 32, 3, 12, 11, .null), (43, .iload_n 1, 1, 1, 0, .null), (44, .iaload, 1, 0, 0, .null), (45, .aload_n 0, 1, 0, 0, .null), (46, .getfield 35, 3, 12, 12, .null), (49, .iload_n 1, 1, 1, 0, .null), (50, .iaload, 1, 0, 0, .null), (51, .invokevirtual 288, 3, 0, 0, .null), (54, .iload_n 3, 1, 3, 0, .null), (55, .ifCond .ne 15, 3, 0, 70, .null), (58, .aload_n 0, 1, 0, 0, .null), (59, .getfield 50, 3, 12, 33, .null), (62, .bipush 24, 2, 0, 0, .int 24), (64, .iload_n 2, 1, 2, 0, .null), (65, .iadd, 1, 0, 0, .null), (66, .iaload, 1, 0, 0, .null), (67, .goto 12, 3, 0, 79, .null), (70, .aload_n 0, 1, 0, 0, .null), (71, .getfield 53, 3, 12, 34, .null), (74, .bipush 24, 2, 0, 0, .int 24), (76, .iload_n 2, 1, 2, 0, .null), (77, .iadd, 1, 0, 0, .null), (78, .iaload, 1, 0, 0, .null), (79, .ireturn, 1, 0, 0, .null)]
theorem ok_Mo_heard : cd_Mo_heard.all (mm_k M_Mo_heard) = true := by decide +kernel
abbrev M_Mo_points : mm_M := (⟨"SchoolOnRaftModel", "points", "(I)I"⟩, prog_14_method_51_code, 2, (some .int))
def cd_Mo_points : List mm_E := [(0, .iload_n 1, 1, 1, 0, .null), (1, .iconst (-1), 1, 0, 0, .int (-1)), (2, .if_icmp .eq 14, 3, 0, 16, .null), (5, .aload_n 0, 1, 0, 0, .null), (6, .iload_n 1, 1, 1, 0, .null), (7, .invokevirtual 121, 3, 0, 0, .null), (10, .ifCond .ne 6, 3, 0, 16, .null), (13, .bipush (-2), 2, 0, 0, .int (-2)), (15, .ireturn, 1, 0, 0, .null), (16, .aload_n 0, 1, 0, 0, .null), (17, .invokevirtual 298, 3, 0, 0, .null), (20, .aload_n 0, 1, 0, 0, .null), (21, .invokevirtual 301, 3, 0, 0, .null), (24, .iload_n 1, 1, 1, 0, .null), (25, .iconst (-1), 1, 0, 0, .int (-1)), (26, .if_icmp .ne 10, 3, 0, 36, .null), (29, .aload_n 0, 1, 0, 0, .null), (30, .invokevirtual 304, 3, 0, 0, .null), (33, .goto 8, 3, 0, 41, .null), (36, .aload_n 0, 1, 0, 0, .null), (37, .iload_n 1, 1, 1, 0, .null), (38, .invokevirtual 295, 3, 0, 0, .null), (41, .ireturn, 1, 0, 0, .null)]
theorem ok_Mo_points : cd_Mo_points.all (mm_k M_Mo_points) = true := by decide +kernel
abbrev M_Mo_adds : mm_M := (⟨"SchoolOnRaftModel", "adds", "(III)V"⟩, prog_14_method_52_code, 5, none)
def cd_Mo_adds : List mm_E := [(0, .iload_n 1, 1, 1, 0, .null), (1, .bipush 6, 2, 0, 0, .int 6), (3, .if_icmp .ne 18, 3, 0, 21, .null), (6, .aload_n 0, 1, 0, 0, .null), (7, .getfield 62, 3, 12, 37, .null), (10, .iload_n 3, 1, 3, 0, .null), (11, .dup2, 1, 0, 0, .null), (12, .iaload, 1, 0, 0, .null), (13, .aload_n 0, 1, 0, 0, .null), (14, .iload_n 2, 1, 2, 0, .null), (15, .invokevirtual 292, 3, 0, 0, .null), (18, .iadd, 1, 0, 0, .null), (19, .iastore, 1, 0, 0, .null), (20, .return_, 1, 0, 0, .null), (21, .iconst (-1), 1, 0, 0, .int (-1)), (22, .istore 4, 2, 4, 0, .null), (24, .iload 4, 2, 4, 0, .null), (26, .aload_n 0, 1, 0, 0, .null), (27, .getfield 97, 3, 12, 10, .null), (30, .if_icmp .ge 57, 3, 0, 87, .null), (33, .aload_n 0, 1, 0, 0, .null), (34, .iload_n 1, 1, 1, 0, .null), (35, .iload_n 2, 1, 2, 0, .null), (36, .iload 4, 2, 4, 0, .null), (38, .iload_n 1, 1, 1, 0, .null), (39, .i2l, 1, 0, 0, .null), (40, .aload_n 0, 1, 0, 0, .null), (41, .getfield 32, 3, 12, 11, .null), (44, .iload_n 2, 1, 2, 0, .null), (45, .iaload, 1, 0, 0, .null), (46, .i2l, 1, 0, 0, .null), (47, .aload_n 0, 1, 0, 0, .null), (48, .getfield 35, 3, 12, 12, .null), (51, .iload_n 2, 1, 2, 0, .null), (52, .iaload, 1, 0, 0, .null), (53, .i2l, 1, 0, 0, .null), (54, .invokestatic 100, 3, 0, 0, .null), (57, .invokevirtual 280, 3, 0, 0, .null), (60, .aload_n 0, 1, 0, 0, .null), (61, .iload_n 1, 1, 1, 0, .null), (62, .iconst 1, 1, 0, 0, .int 1), (63, .iadd, 1, 0, 0, .null), (64, .iload_n 2, 1, 2, 0, .null), (65, .iload_n 3, 1, 3, 0, .null), (66, .aload_n 0, 1, 0, 0, .null), (67, .getfield 97, 3, 12, 10, .null), (70, .iconst 1, 1, 0, 0, .int 1), (71, .iadd, 1, 0, 0, .null), (72, .imul, 1, 0, 0, .null), (73, .iload 4, 2, 4, 0, .null), (75, .iadd, 1, 0, 0, .null), (76, .iconst 1, 1, 0, 0, .int 1), (77, .iadd, 1, 0, 0, .null), (78, .invokevirtual 307, 3, 0, 0, .null), (81, .iinc 4 1, 3, 4, 0, .int 1), (84, .goto (-60), 3, 0, 24, .null), (87, .return_, 1, 0, 0, .null)]
theorem ok_Mo_adds : cd_Mo_adds.all (mm_k M_Mo_adds) = true := by decide +kernel
abbrev M_Mo_seeks : mm_M := (⟨"SchoolOnRaftModel", "seeks", "()V"⟩, prog_14_method_53_code, 4, none)
def cd_Mo_seeks : List mm_E := [(0, .aload_n 0, 1, 0, 0, .null), (1, .invokevirtual 298, 3, 0, 0, .null), (4, .iconst 1, 1, 0, 0, .int 1), (5, .istore_n 1, 1, 1, 0, .null), (6, .iconst 0, 1, 0, 0, .int 0), (7, .istore_n 2, 1, 2, 0, .null), (8, .iload_n 2, 1, 2, 0, .null), (9, .bipush 6, 2, 0, 0, .int 6), (11, .if_icmp .ge 18, 3, 0, 29, .null), (14, .iload_n 1, 1, 1, 0, .null), (15, .aload_n 0, 1, 0, 0, .null), (16, .getfield 97, 3, 12, 10, .null), (19, .iconst 1, 1, 0, 0, .int 1), (20, .iadd, 1, 0, 0, .null), (21, .imul, 1, 0, 0, .null), (22, .istore_n 1, 1, 1, 0, .null), (23, .iinc 2 1, 3, 2, 0, .int 1), (26, .goto (-18), 3, 0, 8, .null), (29, .iconst 0, 1, 0, 0, .int 0), (30, .istore_n 2, 1, 2, 0, .null), (31, .iload_n 2, 1, 2, 0, .null), (32, .iload_n 1, 1, 1, 0, .null), (33, .if_icmp .ge 16, 3, 0, 49, .null), (36, .aload_n 0, 1, 0, 0, .null), (37, .getfield 62, 3, 12, 37, .null), (40, .iload_n 2, 1, 2, 0, .null), (41, .iconst 0, 1, 0, 0, .int 0), (42, .iastore, 1, 0, 0, .null), (43, .iinc 2 1, 3, 2, 0, .int 1), (46, .goto (-15), 3, 0, 31, .null), (49, .iconst 0, 1, 0, 0, .int 0), (50, .istore_n 2, 1, 2, 0, .null), (51, .iload_n 2, 1, 2, 0, .null), (52, .aload_n 0, 1, 0, 0, .null), (53, .getfield 104, 3, 12, 14, .null), (56, .if_icmp .ge 20, 3, 0, 76, .null), (59, .aload_n 0, 1, 0, 0, .null), (60, .invokevirtual 277, 3, 0, 0, .null), (63, .aload_n 0, 1, 0, 0, .null), (64, .iconst 0, 1, 0, 0, .int 0), (65, .iload_n 2, 1, 2, 0, .null), (66, .iconst 0, 1, 0, 0, .int 0), (67, .invokevirtual 307, 3, 0, 0, .null), (70, .iinc 2 1, 3, 2, 0, .int 1), (73, .goto (-22), 3, 0, 51, .null), (76, .iconst 0, 1, 0, 0, .int 0), (77, .istore_n 2, 1, 2, 0, .null), (78, .iconst 1, 1, 0, 0, .int 1), (79, .istore_n 3, 1, 3, 0, .null), (80, .iload_n 3, 1, 3, 0, .null), (81, .iload_n 1, 1, 1, 0, .null), (82, .if_icmp .ge 30, 3, 0, 112, .null), (85, .aload_n 0, 1, 0, 0, .null), (86, .getfield 62, 3, 12, 37, .null), (89, .iload_n 3, 1, 3, 0, .null), (90, .iaload, 1, 0, 0, .null), (91, .aload_n 0, 1, 0, 0, .null), (92, .getfield 62, 3, 12, 37, .null), (95, .iload_n 2, 1, 2, 0, .null), (96, .iaload, 1, 0, 0, .null), (97, .if_icmp .le 7, 3, 0, 104, .null), (100, .iload_n 3, 1, 3, 0, .null), (101, .goto 4, 3, 0, 105, .null), (104, .iload_n 2, 1, 2, 0, .null), (105, .istore_n 2, 1, 2, 0, .null), (106, .iinc 3 1, 3, 3, 0, .int 1), (109, .goto (-29), 3, 0, 80, .null), (112, .aload_n 0, 1, 0, 0, .null), (113, .aload_n 0, 1, 0, 0, .null), (114, .getfield 62, 3, 12, 37, .null), (117, .iload_n 2, 1, 2, 0, .null), (118, .iaload, 1, 0, 0, .null), (119, .putfield 310, 3, 12, 39, .null), (122, .iconst 5, 1, 0, 0, .int 5), (123, .istore_n 3, 1, 3, 0, .null), (124, .iload_n 3, 1, 3, 0, .null), (125, .ifCond .lt 34, 3, 0, 159, .null), (128, .aload_n 0, 1, 0, 0, .null), (129, .getfield 65, 3, 12, 38, .null), (132, .iload_n 3, 1, 3, 0, .null), (133, .iload_n 2, 1, 2, 0, .null), (134, .aload_n 0, 1, 0, 0, .null), (135, .getfield 97, 3, 12, 10, .null), (138, .iconst 1, 1, 0, 0, .int 1), (139, .iadd, 1, 0, 0, .null), (140, .irem, 1, 0, 0, .null), (141, .iconst 1, 1, 0, 0, .int 1), (142, .isub, 1, 0, 0, .null), (143, .iastore, 1, 0, 0, .null), (144, .iload_n 2, 1, 2, 0, .null), (145, .aload_n 0, 1, 0, 0, .null), (146, .getfield 97, 3, 12, 10, .null), (149, .iconst 1, 1, 0, 0, .int 1), (150, .iadd, 1, 0, 0, .null), (151, .idiv, 1, 0, 0, .null), (152, .istore_n 2, 1, 2, 0, .null), (153, .iinc 3 (-1), 3, 3, 0, .int (-1)), (156, .goto (-32), 3, 0, 124, .null), (159, .return_, 1, 0, 0, .null)]
theorem ok_Mo_seeks : cd_Mo_seeks.all (mm_k M_Mo_seeks) = true := by decide +kernel
abbrev M_Mo_best : mm_M := (⟨"SchoolOnRaftModel", "best", "(I)I"⟩, prog_14_method_54_code, 2, (some .int))
def cd_Mo_best : List mm_E := [(0, .iload_n 1, 1, 1, 0, .null), (1, .i2l, 1, 0, 0, .null), (2, .lconst 0, 1, 0, 0, .long 0), (3, .ldc2_w 313, 3, 0, 0, .long 6), (6, .invokestatic 100, 3, 0, 0, .null), (9, .ifCond .ne 6, 3, 0, 15, .null), (12, .bipush (-2), 2, 0, 0, .int (-2)), (14, .ireturn, 1, 0, 0, .null), (15, .aload_n 0, 1, 0, 0, .null), (16, .invokevirtual 315, 3, 0, 0, .null), (19, .iload_n 1, 1, 1, 0, .null), (20, .ifCond .ne 10, 3, 0, 30, .null), (23, .aload_n 0, 1, 0, 0, .null), (24, .getfield 310, 3, 12, 39, .null), (27, .goto 11, 3, 0, 38, .null), (30, .aload_n 0, 1, 0, 0, .null), (31, .getfield 65, 3, 12, 38, .null), (34, .iload_n 1, 1, 1, 0, .null), (35, .iconst 1, 1, 0, 0, .int 1), (36, .isub, 1, 0, 0, .null), (37, .iaload, 1, 0, 0, .null), (38, .ireturn, 1, 0, 0, .null)]
theorem ok_Mo_best : cd_Mo_best.all (mm_k M_Mo_best) = true := by decide +kernel
abbrev M_Mo_lay : mm_M := (⟨"SchoolOnRaftModel", "lay", "()I"⟩, prog_14_method_55_code, 2, (some .int))
def cd_Mo_lay : List mm_E := [(0, .aload_n 0, 1, 0, 0, .null), (1, .invokevirtual 315, 3, 0, 0, .null), (4, .iconst 0, 1, 0, 0, .int 0), (5, .istore_n 1, 1, 1, 0, .null), (6, .iload_n 1, 1, 1, 0, .null), (7, .bipush 6, 2, 0, 0, .int 6), (9, .if_icmp .ge 21, 3, 0, 30, .null), (12, .aload_n 0, 1, 0, 0, .null), (13, .getfield 41, 3, 12, 15, .null), (16, .iload_n 1, 1, 1, 0, .null), (17, .aload_n 0, 1, 0, 0, .null), (18, .getfield 65, 3, 12, 38, .null), (21, .iload_n 1, 1, 1, 0, .null), (22, .iaload, 1, 0, 0, .null), (23, .iastore, 1, 0, 0, .null), (24, .iinc 1 1, 3, 1, 0, .int 1), (27, .goto (-21), 3, 0, 6, .null), (30, .aload_n 0, 1, 0, 0, .null), (31, .getfield 310, 3, 12, 39, .null), (34, .ireturn, 1, 0, 0, .null)]
theorem ok_Mo_lay : cd_Mo_lay.all (mm_k M_Mo_lay) = true := by decide +kernel
abbrev M_Mo_run : mm_M := (⟨"SchoolOnRaftModel", "run", "(III)I"⟩, prog_14_method_56_code, 11, (some .int))
def cd_Mo_run : List mm_E := [(0, .aload_n 0, 1, 0, 0, .null), (1, .iload_n 1, 1, 1, 0, .null), (2, .invokevirtual 121, 3, 0, 0, .null), (5, .ifCond .eq 33, 3, 0, 38, .null), (8, .iload_n 2, 1, 2, 0, .null), (9, .i2l, 1, 0, 0, .null), (10, .lconst 0, 1, 0, 0, .long 0), (11, .iconst 1, 1, 0, 0, .int 1), (12, .aload_n 0, 1, 0, 0, .null), (13, .getfield 97, 3, 12, 10, .null), (16, .ishl, 1, 0, 0, .null), (17, .iconst 1, 1, 0, 0, .int 1), (18, .isub, 1, 0, 0, .null), (19, .i2l, 1, 0, 0, .null), (20, .invokestatic 100, 3, 0, 0, .null), (23, .ifCond .eq 15, 3, 0, 38, .null), (26, .iload_n 3, 1, 3, 0, .null), (27, .i2l, 1, 0, 0, .null), (28, .lconst 0, 1, 0, 0, .long 0), (29, .ldc2_w 318, 3, 0, 0, .long 2), (32, .invokestatic 100, 3, 0, 0, .null), (35, .ifCond .ne 6, 3, 0, 41, .null), (38, .bipush (-2), 2, 0, 0, .int (-2)), (40, .ireturn, 1, 0, 0, .null), (41, .aload_n 0, 1, 0, 0, .null), (42, .invokevirtual 298, 3, 0, 0, .null), (45, .aload_n 0, 1, 0, 0, .null), (46, .invokevirtual 301, 3, 0, 0, .null), (49, .iconst (-1), 1, 0, 0, .int (-1)), (50, .istore 4, 2, 4, 0, .null), (52, .iconst (-1), 1, 0, 0, .int (-1)), (53, .istore 5, 2, 5, 0, .null), (55, .iconst (-1), 1, 0, 0, .int (-1)), (56, .istore 6, 2, 6, 0, .null), (58, .iconst 0, 1, 0, 0, .int 0), (59, .istore 7, 2, 7, 0, .null), (61, .iload 7, 2, 7, 0, .null), (63, .aload_n 0, 1, 0, 0, .null), (64, .getfield 32, 3, 12, 11, .null), (67, .iload_n 1, 1, 1, 0, .null), (68, .iaload, 1, 0, 0, .null), (69, .if_icmp .gt 144, 3, 0, 213, .null), (72, .aload_n 0, 1, 0, 0, .null), (73, .getfield 35, 3, 12, 12, .null), (76, .iload_n 1, 1, 1, 0, .null), (77, .iaload, 1, 0, 0, .null), (78, .istore 8, 2, 8, 0, .null), (80, .iload 8, 2, 8, 0, .null), (82, .bipush 6, 2, 0, 0, .int 6), (84, .if_icmp .ge 123, 3, 0, 207, .null), (87, .aload_n 0, 1, 0, 0, .null), (88, .iload_n 1, 1, 1, 0, .null), (89, .iload 7, 2, 7, 0, .null), (91, .iload 8, 2, 8, 0, .null), (93, .invokevirtual 288, 3, 0, 0, .null), (96, .aload_n 0, 1, 0, 0, .null), (97, .getfield 59, 3, 12, 36, .null), (100, .iconst 5, 1, 0, 0, .int 5), (101, .iaload, 1, 0, 0, .null), (102, .iload_n 2, 1, 2, 0, .null), (103, .iand, 1, 0, 0, .null), (104, .iload_n 2, 1, 2, 0, .null), (105, .if_icmp .ne 96, 3, 0, 201, .null), (108, .iconst 0, 1, 0, 0, .int 0), (109, .istore 9, 2, 9, 0, .null), (111, .iload 7, 2, 7, 0, .null), (113, .istore 10, 2, 10, 0, .null), (115, .iload 10, 2, 10, 0, .null), (117, .iload 8, 2, 8, 0, .null), (119, .if_icmp .gt 57, 3, 0, 176, .null), (122, .iload 9, 2, 9, 0, .null), (124, .iload 10, 2, 10, 0, .null), (126, .aload_n 0, 1, 0, 0, .null), (127, .getfield 32, 3, 12, 11, .null), (130, .iload_n 1, 1, 1, 0, .null), (131, .iaload, 1, 0, 0, .null), (132, .if_icmp .lt 14, 3, 0, 146, .null), (135, .iload 10, 2, 10, 0, .null), (137, .aload_n 0, 1, 0, 0, .null), (138, .getfield 35, 3, 12, 12, .null), (141, .iload_n 1, 1, 1, 0, .null), (142, .iaload, 1, 0, 0, .null), (143, .if_icmp .le 23, 3, 0, 166, .null), (146, .aload_n 0, 1, 0, 0, .null), (147, .iconst 2, 1, 0, 0, .int 2), (148, .iload 10, 2, 10, 0, .null), (150, .iload_n 1, 1, 1, 0, .null), (151, .iconst 0, 1, 0, 0, .int 0), (152, .iconst 0, 1, 0, 0, .int 0), (153, .iconst 0, 1, 0, 0, .int 0), (154, .invokevirtual 256, 3, 0, 0, .null), (157, .iconst 0, 1, 0, 0, .int 0), (158, .bipush 99, 2, 0, 0, .int 99), (160, .invokestatic 260, 3, 0, 0, .null), (163, .goto 4, 3, 0, 167, .null), (166, .iconst 0, 1, 0, 0, .int 0), (167, .iadd, 1, 0, 0, .null), (168, .istore 9, 2, 9, 0, .null), (170, .iinc 10 1, 3, 10, 0, .int 1), (173, .goto (-58), 3, 0, 115, .null), (176, .iload 4, 2, 4, 0, .null), (178, .iconst (-1), 1, 0, 0, .int (-1)), (179, .if_icmp .eq 10, 3, 0, 189, .null), (182, .iload 9, 2, 9, 0, .null), (184, .iload 4, 2, 4, 0, .null), (186, .if_icmp .ge 15, 3, 0, 201, .null), (189, .iload 9, 2, 9, 0, .null), (191, .istore 4, 2, 4, 0, .null), (193, .iload 7, 2, 7, 0, .null), (195, .istore 5, 2, 5, 0, .null), (197, .iload 8, 2, 8, 0, .null), (199, .istore 6, 2, 6, 0, .null), (201, .iinc 8 1, 3, 8, 0, .int 1), (204, .goto (-124), 3, 0, 80, .null), (207, .iinc 7 1, 3, 7, 0, .int 1), (210, .goto (-149), 3, 0, 61, .null), (213, .iload_n 3, 1, 3, 0, .null), (214, .ifCond .ne 8, 3, 0, 222, .null), (217, .iload 4, 2, 4, 0, .null), (219, .goto 15, 3, 0, 234, .null), (222, .iload_n 3, 1, 3, 0, .null), (223, .iconst 1, 1, 0, 0, .int 1), (224, .if_icmp .ne 8, 3, 0, 232, .null), (227, .iload 5, 2, 5, 0, .null), (229, .goto 5, 3, 0, 234, .null), (232, .iload 6, 2, 6, 0, .null), (234, .ireturn, 1, 0, 0, .null)]
theorem ok_Mo_run : cd_Mo_run.all (mm_k M_Mo_run) = true := by decide +kernel
abbrev M_Mo_twice : mm_M := (⟨"SchoolOnRaftModel", "twice", "(II)I"⟩, prog_14_method_57_code, 7, (some .int))
def cd_Mo_twice : List mm_E := [(0, .aload_n 0, 1, 0, 0, .null), (1, .iload_n 1, 1, 1, 0, .null), (2, .invokevirtual 117, 3, 0, 0, .null), (5, .ifCond .eq 13, 3, 0, 18, .null), (8, .iload_n 2, 1, 2, 0, .null), (9, .i2l, 1, 0, 0, .null), (10, .lconst 0, 1, 0, 0, .long 0), (11, .lconst 1, 1, 0, 0, .long 1), (12, .invokestatic 100, 3, 0, 0, .null), (15, .ifCond .ne 6, 3, 0, 21, .null), (18, .bipush (-2), 2, 0, 0, .int (-2)), (20, .ireturn, 1, 0, 0, .null), (21, .aload_n 0, 1, 0, 0, .null), (22, .invokevirtual 298, 3, 0, 0, .null), (25, .aload_n 0, 1, 0, 0, .null), (26, .invokevirtual 301, 3, 0, 0, .null), (29, .aload_n 0, 1, 0, 0, .null), (30, .invokevirtual 304, 3, 0, 0, .null), (33, .istore_n 3, 1, 3, 0, .null), (34, .iconst (-1), 1, 0, 0, .int (-1)), (35, .istore 4, 2, 4, 0, .null), (37, .iconst 0, 1, 0, 0, .int 0), (38, .istore 5, 2, 5, 0, .null), (40, .iload 5, 2, 5, 0, .null), (42, .bipush 6, 2, 0, 0, .int 6), (44, .if_icmp .ge 50, 3, 0, 94, .null), (47, .aload_n 0, 1, 0, 0, .null), (48, .getfield 56, 3, 12, 35, .null), (51, .iload 5, 2, 5, 0, .null), (53, .iload_n 1, 1, 1, 0, .null), (54, .iastore, 1, 0, 0, .null), (55, .aload_n 0, 1, 0, 0, .null), (56, .invokevirtual 304, 3, 0, 0, .null), (59, .istore 6, 2, 6, 0, .null), (61, .aload_n 0, 1, 0, 0, .null), (62, .getfield 56, 3, 12, 35, .null), (65, .iload 5, 2, 5, 0, .null), (67, .aload_n 0, 1, 0, 0, .null), (68, .getfield 41, 3, 12, 15, .null), (71, .iload 5, 2, 5, 0, .null), (73, .iaload, 1, 0, 0, .null), (74, .iastore, 1, 0, 0, .null), (75, .iload 6, 2, 6, 0, .null), (77, .iload_n 3, 1, 3, 0, .null), (78, .if_icmp .le 10, 3, 0, 88, .null), (81, .iload 5, 2, 5, 0, .null), (83, .istore 4, 2, 4, 0, .null), (85, .iload 6, 2, 6, 0, .null), (87, .istore_n 3, 1, 3, 0, .null), (88, .iinc 5 1, 3, 5, 0, .int 1), (91, .goto (-51), 3, 0, 40, .null), (94, .iload 4, 2, 4, 0, .null), (96, .iconst (-1), 1, 0, 0, .int (-1)), (97, .if_icmp .eq 7, 3, 0, 104, .null), (100, .iload_n 2, 1, 2, 0, .null), (101, .ifCond .ne 8, 3, 0, 109, .null), (104, .iload 4, 2, 4, 0, .null), (106, .goto 4, 3, 0, 110, .null), (109, .iload_n 3, 1, 3, 0, .null), (110, .ireturn, 1, 0, 0, .null)]
theorem ok_Mo_twice : cd_Mo_twice.all (mm_k M_Mo_twice) = true := by decide +kernel
abbrev M_Mo_changeAt : mm_M := (⟨"SchoolOnRaftModel", "changeAt", "(II)I"⟩, prog_14_method_58_code, 4, (some .int))
def cd_Mo_changeAt : List mm_E := [(0, .iconst 0, 1, 0, 0, .int 0), (1, .istore_n 3, 1, 3, 0, .null), (2, .iload_n 3, 1, 3, 0, .null), (3, .bipush 6, 2, 0, 0, .int 6), (5, .if_icmp .ge 33, 3, 0, 38, .null), (8, .aload_n 0, 1, 0, 0, .null), (9, .getfield 56, 3, 12, 35, .null), (12, .iload_n 3, 1, 3, 0, .null), (13, .aload_n 0, 1, 0, 0, .null), (14, .getfield 41, 3, 12, 15, .null), (17, .iload_n 3, 1, 3, 0, .null), (18, .iload_n 2, 1, 2, 0, .null), (19, .if_icmp .gt 7, 3, 0, 26, .null), (22, .iload_n 3, 1, 3, 0, .null), (23, .goto 7, 3, 0, 30, .null), (26, .bipush 6, 2, 0, 0, .int 6), (28, .iload_n 3, 1, 3, 0, .null), (29, .iadd, 1, 0, 0, .null), (30, .iaload, 1, 0, 0, .null), (31, .iastore, 1, 0, 0, .null), (32, .iinc 3 1, 3, 3, 0, .int 1), (35, .goto (-33), 3, 0, 2, .null), (38, .aload_n 0, 1, 0, 0, .null), (39, .iload_n 1, 1, 1, 0, .null), (40, .invokevirtual 295, 3, 0, 0, .null), (43, .ireturn, 1, 0, 0, .null)]
theorem ok_Mo_changeAt : cd_Mo_changeAt.all (mm_k M_Mo_changeAt) = true := by decide +kernel
abbrev M_Mo_change : mm_M := (⟨"SchoolOnRaftModel", "change", "(II)I"⟩, prog_14_method_59_code, 7, (some .int))
def cd_Mo_change : List mm_E := [(0, .aload_n 0, 1, 0, 0, .null), (1, .iload_n 1, 1, 1, 0, .null), (2, .invokevirtual 121, 3, 0, 0, .null), (5, .ifCond .eq 30, 3, 0, 35, .null), (8, .iload_n 2, 1, 2, 0, .null), (9, .iconst (-1), 1, 0, 0, .int (-1)), (10, .if_icmp .eq 28, 3, 0, 38, .null), (13, .iload_n 2, 1, 2, 0, .null), (14, .i2l, 1, 0, 0, .null), (15, .aload_n 0, 1, 0, 0, .null), (16, .getfield 32, 3, 12, 11, .null), (19, .iload_n 1, 1, 1, 0, .null), (20, .iaload, 1, 0, 0, .null), (21, .i2l, 1, 0, 0, .null), (22, .aload_n 0, 1, 0, 0, .null), (23, .getfield 35, 3, 12, 12, .null), (26, .iload_n 1, 1, 1, 0, .null), (27, .iaload, 1, 0, 0, .null), (28, .i2l, 1, 0, 0, .null), (29, .invokestatic 100, 3, 0, 0, .null), (32, .ifCond .ne 6, 3, 0, 38, .null), (35, .bipush (-2), 2, 0, 0, .int (-2)), (37, .ireturn, 1, 0, 0, .null), (38, .aload_n 0, 1, 0, 0, .null), (39, .invokevirtual 298, 3, 0, 0, .null), (42, .iload_n 2, 1, 2, 0, .null), (43, .iconst (-1), 1, 0, 0, .int (-1)), (44, .if_icmp .eq 10, 3, 0, 54, .null), (47, .aload_n 0, 1, 0, 0, .null), (48, .iload_n 1, 1, 1, 0, .null), (49, .iload_n 2, 1, 2, 0, .null), (50, .invokevirtual 320, 3, 0, 0, .null), (53, .ireturn, 1, 0, 0, .null), (54, .iconst (-1), 1, 0, 0, .int (-1)), (55, .istore_n 3, 1, 3, 0, .null), (56, .iconst (-1), 1, 0, 0, .int (-1)), (57, .istore 4, 2, 4, 0, .null), (59, .aload_n 0, 1, 0, 0, .null), (60, .getfield 32, 3, 12, 11, .null), (63, .iload_n 1, 1, 1, 0, .null), (64, .iaload, 1, 0, 0, .null), (65, .istore 5, 2, 5, 0, .null), (67, .iload 5, 2, 5, 0, .null), (69, .aload_n 0, 1, 0, 0, .null), (70, .getfield 35, 3, 12, 12, .null), (73, .iload_n 1, 1, 1, 0, .null), (74, .iaload, 1, 0, 0, .null), (75, .if_icmp .gt 32, 3, 0, 107, .null), (78, .aload_n 0, 1, 0, 0, .null), (79, .iload_n 1, 1, 1, 0, .null), (80, .iload 5, 2, 5, 0, .null), (82, .invokevirtual 320, 3, 0, 0, .null), (85, .istore 6, 2, 6, 0, .null), (87, .iload 6, 2, 6, 0, .null), (89, .iload 4, 2, 4, 0, .null), (91, .if_icmp .le 10, 3, 0, 101, .null), (94, .iload 5, 2, 5, 0, .null), (96, .istore_n 3, 1, 3, 0, .null), (97, .iload 6, 2, 6, 0, .null), (99, .istore 4, 2, 4, 0, .null), (101, .iinc 5 1, 3, 5, 0, .int 1), (104, .goto (-37), 3, 0, 67, .null), (107, .iload_n 3, 1, 3, 0, .null), (108, .ireturn, 1, 0, 0, .null)]
theorem ok_Mo_change : cd_Mo_change.all (mm_k M_Mo_change) = true := by decide +kernel
abbrev M_Mo_examBad : mm_M := (⟨"SchoolOnRaftModel", "examBad", "(II)I"⟩, prog_14_method_60_code, 3, (some .int))
def cd_Mo_examBad : List mm_E := [(0, .aload_n 0, 1, 0, 0, .null), (1, .iload_n 1, 1, 1, 0, .null), (2, .invokevirtual 121, 3, 0, 0, .null), (5, .ifCond .eq 10, 3, 0, 15, .null), (8, .iload_n 2, 1, 2, 0, .null), (9, .invokestatic 323, 3, 0, 0, .null), (12, .ifCond .ne 6, 3, 0, 18, .null), (15, .bipush (-2), 2, 0, 0, .int (-2)), (17, .ireturn, 1, 0, 0, .null), (18, .aload_n 0, 1, 0, 0, .null), (19, .getfield 77, 3, 12, 45, .null), (22, .iload_n 2, 1, 2, 0, .null), (23, .baload, 1, 0, 0, .null), (24, .ifCond .ne 6, 3, 0, 30, .null), (27, .bipush (-11), 2, 0, 0, .int (-11)), (29, .ireturn, 1, 0, 0, .null), (30, .aload_n 0, 1, 0, 0, .null), (31, .getfield 84, 3, 12, 47, .null), (34, .iload_n 2, 1, 2, 0, .null), (35, .iaload, 1, 0, 0, .null), (36, .bipush 6, 2, 0, 0, .int 6), (38, .if_icmp .ne 7, 3, 0, 45, .null), (41, .iconst 0, 1, 0, 0, .int 0), (42, .goto 5, 3, 0, 47, .null), (45, .bipush (-2), 2, 0, 0, .int (-2)), (47, .ireturn, 1, 0, 0, .null)]
theorem ok_Mo_examBad : cd_Mo_examBad.all (mm_k M_Mo_examBad) = true := by decide +kernel
abbrev M_Mo_unlike : mm_M := (⟨"SchoolOnRaftModel", "unlike", "(I)I"⟩, prog_14_method_61_code, 3, (some .int))
def cd_Mo_unlike : List mm_E := [(0, .iconst 0, 1, 0, 0, .int 0), (1, .istore_n 2, 1, 2, 0, .null), (2, .iload_n 2, 1, 2, 0, .null), (3, .bipush 6, 2, 0, 0, .int 6), (5, .if_icmp .ge 31, 3, 0, 36, .null), (8, .aload_n 0, 1, 0, 0, .null), (9, .getfield 59, 3, 12, 36, .null), (12, .iload_n 2, 1, 2, 0, .null), (13, .iaload, 1, 0, 0, .null), (14, .aload_n 0, 1, 0, 0, .null), (15, .getfield 87, 3, 12, 48, .null), (18, .bipush 40, 2, 0, 0, .int 40), (20, .iload_n 1, 1, 1, 0, .null), (21, .imul, 1, 0, 0, .null), (22, .iload_n 2, 1, 2, 0, .null), (23, .iadd, 1, 0, 0, .null), (24, .iaload, 1, 0, 0, .null), (25, .if_icmp .eq 5, 3, 0, 30, .null), (28, .iload_n 2, 1, 2, 0, .null), (29, .ireturn, 1, 0, 0, .null), (30, .iinc 2 1, 3, 2, 0, .int 1), (33, .goto (-31), 3, 0, 2, .null), (36, .iconst (-1), 1, 0, 0, .int (-1)), (37, .ireturn, 1, 0, 0, .null)]
theorem ok_Mo_unlike : cd_Mo_unlike.all (mm_k M_Mo_unlike) = true := by decide +kernel
abbrev M_Mo_exam : mm_M := (⟨"SchoolOnRaftModel", "exam", "(II)I"⟩, prog_14_method_62_code, 4, (some .int))
def cd_Mo_exam : List mm_E := [(0, .aload_n 0, 1, 0, 0, .null), (1, .iload_n 1, 1, 1, 0, .null), (2, .iload_n 2, 1, 2, 0, .null), (3, .invokevirtual 326, 3, 0, 0, .null), (6, .istore_n 3, 1, 3, 0, .null), (7, .iload_n 3, 1, 3, 0, .null), (8, .ifCond .eq 5, 3, 0, 13, .null), (11, .iload_n 3, 1, 3, 0, .null), (12, .ireturn, 1, 0, 0, .null), (13, .aload_n 0, 1, 0, 0, .null), (14, .invokevirtual 298, 3, 0, 0, .null), (17, .aload_n 0, 1, 0, 0, .null), (18, .invokevirtual 301, 3, 0, 0, .null), (21, .aload_n 0, 1, 0, 0, .null), (22, .iload_n 1, 1, 1, 0, .null), (23, .aload_n 0, 1, 0, 0, .null), (24, .getfield 32, 3, 12, 11, .null), (27, .iload_n 1, 1, 1, 0, .null), (28, .iaload, 1, 0, 0, .null), (29, .aload_n 0, 1, 0, 0, .null), (30, .getfield 35, 3, 12, 12, .null), (33, .iload_n 1, 1, 1, 0, .null), (34, .iaload, 1, 0, 0, .null), (35, .invokevirtual 288, 3, 0, 0, .null), (38, .aload_n 0, 1, 0, 0, .null), (39, .iload_n 2, 1, 2, 0, .null), (40, .invokevirtual 329, 3, 0, 0, .null), (43, .ireturn, 1, 0, 0, .null)]
theorem ok_Mo_exam : cd_Mo_exam.all (mm_k M_Mo_exam) = true := by decide +kernel
abbrev M_Mo_aboard : mm_M := (⟨"SchoolOnRaftModel", "aboard", "(III)I"⟩, prog_14_method_63_code, 9, (some .int))
def cd_Mo_aboard : List mm_E := [(0, .aload_n 0, 1, 0, 0, .null), (1, .iload_n 1, 1, 1, 0, .null), (2, .iload_n 2, 1, 2, 0, .null), (3, .invokevirtual 326, 3, 0, 0, .null), (6, .istore 4, 2, 4, 0, .null), (8, .iload 4, 2, 4, 0, .null), (10, .ifCond .eq 6, 3, 0, 16, .null), (13, .iload 4, 2, 4, 0, .null), (15, .ireturn, 1, 0, 0, .null), (16, .iload_n 3, 1, 3, 0, .null), (17, .i2l, 1, 0, 0, .null), (18, .lconst 0, 1, 0, 0, .long 0), (19, .lconst 1, 1, 0, 0, .long 1), (20, .invokestatic 100, 3, 0, 0, .null), (23, .ifCond .ne 6, 3, 0, 29, .null), (26, .bipush (-2), 2, 0, 0, .int (-2)), (28, .ireturn, 1, 0, 0, .null), (29, .aload_n 0, 1, 0, 0, .null), (30, .invokevirtual 298, 3, 0, 0, .null), (33, .aload_n 0, 1, 0, 0, .null), (34, .invokevirtual 301, 3, 0, 0, .null), (37, .iconst 0, 1, 0, 0, .int 0), (38, .istore 5, 2, 5, 0, .null), (40, .iconst (-1), 1, 0, 0, .int (-1)), (41, .istore 6, 2, 6, 0, .null), (43, .iconst 0, 1, 0, 0, .int 0), (44, .istore 7, 2, 7, 0, .null), (46, .iload 7, 2, 7, 0, .null), (48, .bipush 6, 2, 0, 0, .int 6), (50, .if_icmp .ge 68, 3, 0, 118, .null), (53, .iload 7, 2, 7, 0, .null), (55, .istore 8, 2, 8, 0, .null), (57, .iload 8, 2, 8, 0, .null), (59, .bipush 6, 2, 0, 0, .int 6), (61, .if_icmp .ge 51, 3, 0, 112, .null), (64, .aload_n 0, 1, 0, 0, .null), (65, .iload_n 1, 1, 1, 0, .null), (66, .iload 7, 2, 7, 0, .null), (68, .iload 8, 2, 8, 0, .null), (70, .invokevirtual 288, 3, 0, 0, .null), (73, .aload_n 0, 1, 0, 0, .null), (74, .iload_n 2, 1, 2, 0, .null), (75, .invokevirtual 329, 3, 0, 0, .null), (78, .iconst (-1), 1, 0, 0, .int (-1)), (79, .if_icmp .ne 27, 3, 0, 106, .null), (82, .iinc 5 1, 3, 5, 0, .int 1), (85, .iload 6, 2, 6, 0, .null), (87, .iconst (-1), 1, 0, 0, .int (-1)), (88, .if_icmp .ne 14, 3, 0, 102, .null), (91, .bipush 10, 2, 0, 0, .int 10), (93, .iload 7, 2, 7, 0, .null), (95, .imul, 1, 0, 0, .null), (96, .iload 8, 2, 8, 0, .null), (98, .iadd, 1, 0, 0, .null), (99, .goto 5, 3, 0, 104, .null), (102, .iload 6, 2, 6, 0, .null), (104, .istore 6, 2, 6, 0, .null), (106, .iinc 8 1, 3, 8, 0, .int 1), (109, .goto (-52), 3, 0, 57, .null), (112, .iinc 7 1, 3, 7, 0, .int 1), (115, .goto (-69), 3, 0, 46, .null), (118, .iload_n 3, 1, 3, 0, .null), (119, .ifCond .ne 8, 3, 0, 127, .null), (122, .iload 5, 2, 5, 0, .null), (124, .goto 5, 3, 0, 129, .null), (127, .iload 6, 2, 6, 0, .null), (129, .ireturn, 1, 0, 0, .null)]
theorem ok_Mo_aboard : cd_Mo_aboard.all (mm_k M_Mo_aboard) = true := by decide +kernel
abbrev M_Mo_allHave : mm_M := (⟨"SchoolOnRaftModel", "allHave", "()I"⟩, prog_14_method_64_code, 3, (some .int))
def cd_Mo_allHave : List mm_E := [(0, .aload_n 0, 1, 0, 0, .null), (1, .invokevirtual 298, 3, 0, 0, .null), (4, .aload_n 0, 1, 0, 0, .null), (5, .invokevirtual 301, 3, 0, 0, .null), (8, .iconst 0, 1, 0, 0, .int 0), (9, .istore_n 1, 1, 1, 0, .null), (10, .iconst 0, 1, 0, 0, .int 0), (11, .istore_n 2, 1, 2, 0, .null), (12, .iload_n 2, 1, 2, 0, .null), (13, .aload_n 0, 1, 0, 0, .null), (14, .getfield 104, 3, 12, 14, .null), (17, .if_icmp .ge 47, 3, 0, 64, .null), (20, .aload_n 0, 1, 0, 0, .null), (21, .iload_n 2, 1, 2, 0, .null), (22, .aload_n 0, 1, 0, 0, .null), (23, .getfield 32, 3, 12, 11, .null), (26, .iload_n 2, 1, 2, 0, .null), (27, .iaload, 1, 0, 0, .null), (28, .aload_n 0, 1, 0, 0, .null), (29, .getfield 35, 3, 12, 12, .null), (32, .iload_n 2, 1, 2, 0, .null), (33, .iaload, 1, 0, 0, .null), (34, .invokevirtual 288, 3, 0, 0, .null), (37, .aload_n 0, 1, 0, 0, .null), (38, .getfield 68, 3, 12, 40, .null), (41, .iload_n 2, 1, 2, 0, .null), (42, .aload_n 0, 1, 0, 0, .null), (43, .getfield 59, 3, 12, 36, .null), (46, .iconst 5, 1, 0, 0, .int 5), (47, .iaload, 1, 0, 0, .null), (48, .iastore, 1, 0, 0, .null), (49, .iload_n 1, 1, 1, 0, .null), (50, .aload_n 0, 1, 0, 0, .null), (51, .getfield 68, 3, 12, 40, .null), (54, .iload_n 2, 1, 2, 0, .null), (55, .iaload, 1, 0, 0, .null), (56, .ior, 1, 0, 0, .null), (57, .istore_n 1, 1, 1, 0, .null), (58, .iinc 2 1, 3, 2, 0, .int 1), (61, .goto (-49), 3, 0, 12, .null), (64, .iload_n 1, 1, 1, 0, .null), (65, .ireturn, 1, 0, 0, .null)]
theorem ok_Mo_allHave : cd_Mo_allHave.all (mm_k M_Mo_allHave) = true := by decide +kernel
abbrev M_Mo_together : mm_M := (⟨"SchoolOnRaftModel", "together", "(I)I"⟩, prog_14_method_65_code, 7, (some .int))
def cd_Mo_together : List mm_E := [(0, .iload_n 1, 1, 1, 0, .null), (1, .i2l, 1, 0, 0, .null), (2, .lconst 0, 1, 0, 0, .long 0), (3, .ldc2_w 318, 3, 0, 0, .long 2), (6, .invokestatic 100, 3, 0, 0, .null), (9, .ifCond .ne 6, 3, 0, 15, .null), (12, .bipush (-2), 2, 0, 0, .int (-2)), (14, .ireturn, 1, 0, 0, .null), (15, .aload_n 0, 1, 0, 0, .null), (16, .invokevirtual 332, 3, 0, 0, .null), (19, .istore_n 2, 1, 2, 0, .null), (20, .iload_n 1, 1, 1, 0, .null), (21, .ifCond .ne 5, 3, 0, 26, .null), (24, .iload_n 2, 1, 2, 0, .null), (25, .ireturn, 1, 0, 0, .null), (26, .iconst (-1), 1, 0, 0, .int (-1)), (27, .istore_n 3, 1, 3, 0, .null), (28, .iconst 0, 1, 0, 0, .int 0), (29, .istore 4, 2, 4, 0, .null), (31, .iload 4, 2, 4, 0, .null), (33, .iconst 1, 1, 0, 0, .int 1), (34, .aload_n 0, 1, 0, 0, .null), (35, .getfield 104, 3, 12, 14, .null), (38, .ishl, 1, 0, 0, .null), (39, .if_icmp .ge 83, 3, 0, 122, .null), (42, .iconst 0, 1, 0, 0, .int 0), (43, .istore 5, 2, 5, 0, .null), (45, .iconst 0, 1, 0, 0, .int 0), (46, .istore 6, 2, 6, 0, .null), (48, .iload 6, 2, 6, 0, .null), (50, .aload_n 0, 1, 0, 0, .null), (51, .getfield 104, 3, 12, 14, .null), (54, .if_icmp .ge 36, 3, 0, 90, .null), (57, .iload 5, 2, 5, 0, .null), (59, .iload 4, 2, 4, 0, .null), (61, .iload 6, 2, 6, 0, .null), (63, .ishr, 1, 0, 0, .null), (64, .iconst 1, 1, 0, 0, .int 1), (65, .iand, 1, 0, 0, .null), (66, .iconst 1, 1, 0, 0, .int 1), (67, .if_icmp .ne 13, 3, 0, 80, .null), (70, .aload_n 0, 1, 0, 0, .null), (71, .getfield 68, 3, 12, 40, .null), (74, .iload 6, 2, 6, 0, .null), (76, .iaload, 1, 0, 0, .null), (77, .goto 4, 3, 0, 81, .null), (80, .iconst 0, 1, 0, 0, .int 0), (81, .ior, 1, 0, 0, .null), (82, .istore 5, 2, 5, 0, .null), (84, .iinc 6 1, 3, 6, 0, .int 1), (87, .goto (-39), 3, 0, 48, .null), (90, .iload 5, 2, 5, 0, .null), (92, .iload_n 2, 1, 2, 0, .null), (93, .if_icmp .ne 23, 3, 0, 116, .null), (96, .iload_n 3, 1, 3, 0, .null), (97, .iconst (-1), 1, 0, 0, .int (-1)), (98, .if_icmp .eq 15, 3, 0, 113, .null), (101, .iload 4, 2, 4, 0, .null), (103, .invokestatic 270, 3, 0, 0, .null), (106, .iload_n 3, 1, 3, 0, .null), (107, .invokestatic 270, 3, 0, 0, .null), (110, .if_icmp .ge 6, 3, 0, 116, .null), (113, .iload 4, 2, 4, 0, .null), (115, .istore_n 3, 1, 3, 0, .null), (116, .iinc 4 1, 3, 4, 0, .int 1), (119, .goto (-88), 3, 0, 31, .null), (122, .iload_n 1, 1, 1, 0, .null), (123, .iconst 1, 1, 0, 0, .int 1), (124, .if_icmp .ne 7, 3, 0, 131, .null), (127, .iload_n 3, 1, 3, 0, .null), (128, .goto 7, 3, 0, 135, .null), (131, .iload_n 3, 1, 3, 0, .null), (132, .invokestatic 270, 3, 0, 0, .null), (135, .ireturn, 1, 0, 0, .null)]
theorem ok_Mo_together : cd_Mo_together.all (mm_k M_Mo_together) = true := by decide +kernel
abbrev M_Mo_known : mm_M := (⟨"SchoolOnRaftModel", "known", "(I)I"⟩, prog_14_method_66_code, 4, (some .int))
def cd_Mo_known : List mm_E := [(0, .aload_n 0, 1, 0, 0, .null), (1, .iload_n 1, 1, 1, 0, .null), (2, .invokevirtual 117, 3, 0, 0, .null), (5, .ifCond .ne 6, 3, 0, 11, .null), (8, .bipush (-2), 2, 0, 0, .int (-2)), (10, .ireturn, 1, 0, 0, .null), (11, .aload_n 0, 1, 0, 0, .null), (12, .invokevirtual 332, 3, 0, 0, .null), (15, .pop, 1, 0, 0, .null), (16, .iconst 0, 1, 0, 0, .int 0), (17, .istore_n 2, 1, 2, 0, .null), (18, .iconst 0, 1, 0, 0, .int 0), (19, .istore_n 3, 1, 3, 0, .null), (20, .iload_n 3, 1, 3, 0, .null), (21, .aload_n 0, 1, 0, 0, .null), (22, .getfield 104, 3, 12, 14, .null), (25, .if_icmp .ge 24, 3, 0, 49, .null), (28, .iload_n 2, 1, 2, 0, .null), (29, .aload_n 0, 1, 0, 0, .null), (30, .getfield 68, 3, 12, 40, .null), (33, .iload_n 3, 1, 3, 0, .null), (34, .iaload, 1, 0, 0, .null), (35, .iload_n 1, 1, 1, 0, .null), (36, .ishr, 1, 0, 0, .null), (37, .iconst 1, 1, 0, 0, .int 1), (38, .iand, 1, 0, 0, .null), (39, .iload_n 3, 1, 3, 0, .null), (40, .ishl, 1, 0, 0, .null), (41, .ior, 1, 0, 0, .null), (42, .istore_n 2, 1, 2, 0, .null), (43, .iinc 3 1, 3, 3, 0, .int 1), (46, .goto (-26), 3, 0, 20, .null), (49, .iload_n 2, 1, 2, 0, .null), (50, .ireturn, 1, 0, 0, .null)]
theorem ok_Mo_known : cd_Mo_known.all (mm_k M_Mo_known) = true := by decide +kernel
abbrev M_Mo_floods : mm_M := (⟨"SchoolOnRaftModel", "floods", "(II)V"⟩, prog_14_method_67_code, 5, none)
def cd_Mo_floods : List mm_E := [(0, .iload_n 1, 1, 1, 0, .null), (1, .istore_n 3, 1, 3, 0, .null), (2, .iconst 0, 1, 0, 0, .int 0), (3, .istore 4, 2, 4, 0, .null), (5, .iload 4, 2, 4, 0, .null), (7, .bipush 6, 2, 0, 0, .int 6), (9, .if_icmp .ge 48, 3, 0, 57, .null), (12, .iload_n 3, 1, 3, 0, .null), (13, .ldc_w 335, 3, 0, 0, .int 1103515245), (16, .imul, 1, 0, 0, .null), (17, .sipush 12345, 3, 0, 0, .int 12345), (20, .iadd, 1, 0, 0, .null), (21, .istore_n 3, 1, 3, 0, .null), (22, .aload_n 0, 1, 0, 0, .null), (23, .getfield 56, 3, 12, 35, .null), (26, .iload 4, 2, 4, 0, .null), (28, .iload_n 3, 1, 3, 0, .null), (29, .bipush 11, 2, 0, 0, .int 11), (31, .iushr, 1, 0, 0, .null), (32, .bipush 10, 2, 0, 0, .int 10), (34, .irem, 1, 0, 0, .null), (35, .iload_n 2, 1, 2, 0, .null), (36, .if_icmp .ge 7, 3, 0, 43, .null), (39, .iconst (-1), 1, 0, 0, .int (-1)), (40, .goto 10, 3, 0, 50, .null), (43, .aload_n 0, 1, 0, 0, .null), (44, .getfield 41, 3, 12, 15, .null), (47, .iload 4, 2, 4, 0, .null), (49, .iaload, 1, 0, 0, .null), (50, .iastore, 1, 0, 0, .null), (51, .iinc 4 1, 3, 4, 0, .int 1), (54, .goto (-49), 3, 0, 5, .null), (57, .return_, 1, 0, 0, .null)]
theorem ok_Mo_floods : cd_Mo_floods.all (mm_k M_Mo_floods) = true := by decide +kernel
abbrev M_Mo_drawn : mm_M := (⟨"SchoolOnRaftModel", "drawn", "(II)I"⟩, prog_14_method_68_code, 3, (some .int))
def cd_Mo_drawn : List mm_E := [(0, .iload_n 2, 1, 2, 0, .null), (1, .i2l, 1, 0, 0, .null), (2, .lconst 0, 1, 0, 0, .long 0), (3, .ldc2_w 168, 3, 0, 0, .long 10), (6, .invokestatic 100, 3, 0, 0, .null), (9, .ifCond .ne 6, 3, 0, 15, .null), (12, .bipush (-2), 2, 0, 0, .int (-2)), (14, .ireturn, 1, 0, 0, .null), (15, .aload_n 0, 1, 0, 0, .null), (16, .invokevirtual 298, 3, 0, 0, .null), (19, .aload_n 0, 1, 0, 0, .null), (20, .iload_n 1, 1, 1, 0, .null), (21, .iload_n 2, 1, 2, 0, .null), (22, .invokevirtual 336, 3, 0, 0, .null), (25, .aload_n 0, 1, 0, 0, .null), (26, .invokevirtual 304, 3, 0, 0, .null), (29, .ireturn, 1, 0, 0, .null)]
theorem ok_Mo_drawn : cd_Mo_drawn.all (mm_k M_Mo_drawn) = true := by decide +kernel
abbrev M_Mo_chance : mm_M := (⟨"SchoolOnRaftModel", "chance", "(IIIII)J"⟩, prog_14_method_69_code, 14, (some .long))
def cd_Mo_chance : List mm_E := [(0, .iload_n 2, 1, 2, 0, .null), (1, .i2l, 1, 0, 0, .null), (2, .lconst 1, 1, 0, 0, .long 1), (3, .ldc2_w 340, 3, 0, 0, .long 20), (6, .invokestatic 100, 3, 0, 0, .null), (9, .ifCond .eq 35, 3, 0, 44, .null), (12, .iload_n 3, 1, 3, 0, .null), (13, .i2l, 1, 0, 0, .null), (14, .lconst 0, 1, 0, 0, .long 0), (15, .ldc2_w 168, 3, 0, 0, .long 10), (18, .invokestatic 100, 3, 0, 0, .null), (21, .ifCond .eq 23, 3, 0, 44, .null), (24, .aload_n 0, 1, 0, 0, .null), (25, .iload 4, 2, 4, 0, .null), (27, .invokevirtual 117, 3, 0, 0, .null), (30, .ifCond .eq 14, 3, 0, 44, .null), (33, .iload 5, 2, 5, 0, .null), (35, .i2l, 1, 0, 0, .null), (36, .lconst 0, 1, 0, 0, .long 0), (37, .lconst 1, 1, 0, 0, .long 1), (38, .invokestatic 100, 3, 0, 0, .null), (41, .ifCond .ne 7, 3, 0, 48, .null), (44, .ldc2_w 342, 3, 0, 0, .long (-4611686018427387904)), (47, .lreturn, 1, 0, 0, .null), (48, .aload_n 0, 1, 0, 0, .null), (49, .invokevirtual 298, 3, 0, 0, .null), (52, .lconst 0, 1, 0, 0, .long 0), (53, .lstore 6, 2, 6, 0, .null), (55, .iconst 0, 1, 0, 0, .int 0), (56, .istore 8, 2, 8, 0, .null), (58, .iload 8, 2, 8, 0, .null), (60, .iload_n 2, 1, 2, 0, .null), (61, .if_icmp .ge 101, 3, 0, 162, .null), (64, .aload_n 0, 1, 0, 0, .null), (65, .iload_n 1, 1, 1, 0, .null), (66, .iload 8, 2, 8, 0, .null), (68, .iadd, 1, 0, 0, .null), (69, .iload_n 3, 1, 3, 0, .null), (70, .invokevirtual 336, 3, 0, 0, .null), (73, .iconst 1, 1, 0, 0, .int 1), (74, .istore 9, 2, 9, 0, .null), (76, .iconst 0, 1, 0, 0, .int 0), (77, .istore 10, 2, 10, 0, .null), (79, .iload 10, 2, 10, 0, .null), (81, .aload_n 0, 1, 0, 0, .null), (82, .getfield 104, 3, 12, 14, .null), (85, .if_icmp .ge 56, 3, 0, 141, .null), (88, .iload 9, 2, 9, 0, .null), (90, .ifCond .eq 51, 3, 0, 141, .null), (93, .aload_n 0, 1, 0, 0, .null), (94, .iload 10, 2, 10, 0, .null), (96, .aload_n 0, 1, 0, 0, .null), (97, .getfield 32, 3, 12, 11, .null), (100, .iload 10, 2, 10, 0, .null), (102, .iaload, 1, 0, 0, .null), (103, .aload_n 0, 1, 0, 0, .null), (104, .getfield 35, 3, 12, 12, .null), (107, .iload 10, 2, 10, 0, .null), (109, .iaload, 1, 0, 0, .null), (110, .invokevirtual 288, 3, 0, 0, .null), (113, .aload_n 0, 1, 0, 0, .null), (114, .getfield 59, 3, 12, 36, .null), (117, .iconst 5, 1, 0, 0, .int 5), (118, .iaload, 1, 0, 0, .null), (119, .iload 4, 2, 4, 0, .null), (121, .ishr, 1, 0, 0, .null), (122, .iconst 1, 1, 0, 0, .int 1), (123, .iand, 1, 0, 0, .null), (124, .iconst 1, 1, 0, 0, .int 1), (125, .if_icmp .ne 7, 3, 0, 132, .null), (128, .iconst 1, 1, 0, 0, .int 1), (129, .goto 4, 3, 0, 133, .null), (132, .iconst 0, 1, 0, 0, .int 0), (133, .istore 9, 2, 9, 0, .null), (135, .iinc 10 1, 3, 10, 0, .int 1), (138, .goto (-59), 3, 0, 79, .null), (141, .lload 6, 2, 6, 0, .null), (143, .iload 9, 2, 9, 0, .null), (145, .ifCond .eq 7, 3, 0, 152, .null), (148, .lconst 1, 1, 0, 0, .long 1), (149, .goto 4, 3, 0, 153, .null), (152, .lconst 0, 1, 0, 0, .long 0), (153, .ladd, 1, 0, 0, .null), (154, .lstore 6, 2, 6, 0, .null), (156, .iinc 8 1, 3, 8, 0, .int 1), (159, .goto (-101), 3, 0, 58, .null), (162, .lload 6, 2, 6, 0, .null), (164, .lstore 8, 2, 8, 0, .null), (166, .iload_n 2, 1, 2, 0, .null), (167, .i2l, 1, 0, 0, .null), (168, .lstore 10, 2, 10, 0, .null), (170, .lload 10, 2, 10, 0, .null), (172, .lconst 0, 1, 0, 0, .long 0), (173, .lcmp, 1, 0, 0, .null), (174, .ifCond .eq 21, 3, 0, 195, .null), (177, .lload 8, 2, 8, 0, .null), (179, .lload 10, 2, 10, 0, .null), (181, .lrem, 1, 0, 0, .null), (182, .lstore 12, 2, 12, 0, .null), (184, .lload 10, 2, 10, 0, .null), (186, .lstore 8, 2, 8, 0, .null), (188, .lload 12, 2, 12, 0, .null), (190, .lstore 10, 2, 10, 0, .null), (192, .goto (-22), 3, 0, 170, .null), (195, .iload 5, 2, 5, 0, .null), (197, .ifCond .ne 11, 3, 0, 208, .null), (200, .lload 6, 2, 6, 0, .null), (202, .lload 8, 2, 8, 0, .null), (204, .ldiv, 1, 0, 0, .null), (205, .goto 8, 3, 0, 213, .null), (208, .iload_n 2, 1, 2, 0, .null), (209, .i2l, 1, 0, 0, .null), (210, .lload 8, 2, 8, 0, .null), (212, .ldiv, 1, 0, 0, .null), (213, .lreturn, 1, 0, 0, .null)]
theorem ok_Mo_chance : cd_Mo_chance.all (mm_k M_Mo_chance) = true := by decide +kernel
abbrev M_Mo_image : mm_M := (⟨"SchoolOnRaftModel", "image", "()I"⟩, prog_14_method_70_code, 2, (some .int))
def cd_Mo_image : List mm_E := [(0, .iconst 0, 1, 0, 0, .int 0), (1, .istore_n 1, 1, 1, 0, .null), (2, .iload_n 1, 1, 1, 0, .null), (3, .bipush 12, 2, 0, 0, .int 12), (5, .if_icmp .ge 21, 3, 0, 26, .null), (8, .aload_n 0, 1, 0, 0, .null), (9, .getfield 71, 3, 12, 41, .null), (12, .iload_n 1, 1, 1, 0, .null), (13, .aload_n 0, 1, 0, 0, .null), (14, .getfield 41, 3, 12, 15, .null), (17, .iload_n 1, 1, 1, 0, .null), (18, .iaload, 1, 0, 0, .null), (19, .iastore, 1, 0, 0, .null), (20, .iinc 1 1, 3, 1, 0, .int 1), (23, .goto (-21), 3, 0, 2, .null), (26, .iconst 0, 1, 0, 0, .int 0), (27, .istore_n 1, 1, 1, 0, .null), (28, .iload_n 1, 1, 1, 0, .null), (29, .bipush 6, 2, 0, 0, .int 6), (31, .if_icmp .ge 54, 3, 0, 85, .null), (34, .aload_n 0, 1, 0, 0, .null), (35, .getfield 71, 3, 12, 41, .null), (38, .bipush 12, 2, 0, 0, .int 12), (40, .iload_n 1, 1, 1, 0, .null), (41, .iadd, 1, 0, 0, .null), (42, .aload_n 0, 1, 0, 0, .null), (43, .getfield 32, 3, 12, 11, .null), (46, .iload_n 1, 1, 1, 0, .null), (47, .iaload, 1, 0, 0, .null), (48, .iastore, 1, 0, 0, .null), (49, .aload_n 0, 1, 0, 0, .null), (50, .getfield 71, 3, 12, 41, .null), (53, .bipush 18, 2, 0, 0, .int 18), (55, .iload_n 1, 1, 1, 0, .null), (56, .iadd, 1, 0, 0, .null), (57, .aload_n 0, 1, 0, 0, .null), (58, .getfield 35, 3, 12, 12, .null), (61, .iload_n 1, 1, 1, 0, .null), (62, .iaload, 1, 0, 0, .null), (63, .iastore, 1, 0, 0, .null), (64, .aload_n 0, 1, 0, 0, .null), (65, .getfield 71, 3, 12, 41, .null), (68, .bipush 24, 2, 0, 0, .int 24), (70, .iload_n 1, 1, 1, 0, .null), (71, .iadd, 1, 0, 0, .null), (72, .aload_n 0, 1, 0, 0, .null), (73, .getfield 38, 3, 12, 13, .null), (76, .iload_n 1, 1, 1, 0, .null), (77, .iaload, 1, 0, 0, .null), (78, .iastore, 1, 0, 0, .null), (79, .iinc 1 1, 3, 1, 0, .int 1), (82, .goto (-54), 3, 0, 28, .null), (85, .iconst 0, 1, 0, 0, .int 0), (86, .istore_n 1, 1, 1, 0, .null), (87, .iload_n 1, 1, 1, 0, .null), (88, .iconst 4, 1, 0, 0, .int 4), (89, .if_icmp .ge 39, 3, 0, 128, .null), (92, .aload_n 0, 1, 0, 0, .null), (93, .getfield 71, 3, 12, 41, .null), (96, .bipush 30, 2, 0, 0, .int 30), (98, .iload_n 1, 1, 1, 0, .null), (99, .iadd, 1, 0, 0, .null), (100, .aload_n 0, 1, 0, 0, .null), (101, .getfield 26, 3, 12, 8, .null), (104, .iload_n 1, 1, 1, 0, .null), (105, .iaload, 1, 0, 0, .null), (106, .iastore, 1, 0, 0, .null), (107, .aload_n 0, 1, 0, 0, .null), (108, .getfield 71, 3, 12, 41, .null), (111, .bipush 34, 2, 0, 0, .int 34), (113, .iload_n 1, 1, 1, 0, .null), (114, .iadd, 1, 0, 0, .null), (115, .aload_n 0, 1, 0, 0, .null), (116, .getfield 29, 3, 12, 9, .null), (119, .iload_n 1, 1, 1, 0, .null), (120, .iaload, 1, 0, 0, .null), (121, .iastore, 1, 0, 0, .null), (122, .iinc 1 1, 3, 1, 0, .int 1), (125, .goto (-38), 3, 0, 87, .null), (128, .aload_n 0, 1, 0, 0, .null), (129, .aload_n 0, 1, 0, 0, .null), (130, .getfield 97, 3, 12, 10, .null), (133, .putfield 74, 3, 12, 42, .null), (136, .aload_n 0, 1, 0, 0, .null), (137, .aload_n 0, 1, 0, 0, .null), (138, .getfield 104, 3, 12, 14, .null), (141, .putfield 344, 3, 12, 43, .null), (144, .aload_n 0, 1, 0, 0, .null), (145, .aload_n 0, 1, 0, 0, .null), (146, .getfield 253, 3, 12, 4, .null), (149, .putfield 347, 3, 12, 44, .null), (152, .aload_n 0, 1, 0, 0, .null), (153, .getfield 104, 3, 12, 14, .null), (156, .ireturn, 1, 0, 0, .null)]
theorem ok_Mo_image : cd_Mo_image.all (mm_k M_Mo_image) = true := by decide +kernel
abbrev M_Mo_back : mm_M := (⟨"SchoolOnRaftModel", "back", "()I"⟩, prog_14_method_71_code, 2, (some .int))
def cd_Mo_back : List mm_E := [(0, .aload_n 0, 1, 0, 0, .null), (1, .getfield 74, 3, 12, 42, .null), (4, .iconst (-1), 1, 0, 0, .int (-1)), (5, .if_icmp .ne 6, 3, 0, 11, .null), (8, .bipush (-3), 2, 0, 0, .int (-3)), (10, .ireturn, 1, 0, 0, .null), (11, .iconst 0, 1, 0, 0, .int 0), (12, .istore_n 1, 1, 1, 0, .null), (13, .iload_n 1, 1, 1, 0, .null), (14, .bipush 12, 2, 0, 0, .int 12), (16, .if_icmp .ge 21, 3, 0, 37, .null), (19, .aload_n 0, 1, 0, 0, .null), (20, .getfield 41, 3, 12, 15, .null), (23, .iload_n 1, 1, 1, 0, .null), (24, .aload_n 0, 1, 0, 0, .null), (25, .getfield 71, 3, 12, 41, .null), (28, .iload_n 1, 1, 1, 0, .null), (29, .iaload, 1, 0, 0, .null), (30, .iastore, 1, 0, 0, .null), (31, .iinc 1 1, 3, 1, 0, .int 1), (34, .goto (-21), 3, 0, 13, .null), (37, .iconst 0, 1, 0, 0, .int 0), (38, .istore_n 1, 1, 1, 0, .null), (39, .iload_n 1, 1, 1, 0, .null), (40, .bipush 6, 2, 0, 0, .int 6), (42, .if_icmp .ge 54, 3, 0, 96, .null), (45, .aload_n 0, 1, 0, 0, .null), (46, .getfield 32, 3, 12, 11, .null), (49, .iload_n 1, 1, 1, 0, .null), (50, .aload_n 0, 1, 0, 0, .null), (51, .getfield 71, 3, 12, 41, .null), (54, .bipush 12, 2, 0, 0, .int 12), (56, .iload_n 1, 1, 1, 0, .null), (57, .iadd, 1, 0, 0, .null), (58, .iaload, 1, 0, 0, .null), (59, .iastore, 1, 0, 0, .null), (60, .aload_n 0, 1, 0, 0, .null), (61, .getfield 35, 3, 12, 12, .null), (64, .iload_n 1, 1, 1, 0, .null), (65, .aload_n 0, 1, 0, 0, .null), (66, .getfield 71, 3, 12, 41, .null), (69, .bipush 18, 2, 0, 0, .int 18), (71, .iload_n 1, 1, 1, 0, .null), (72, .iadd, 1, 0, 0, .null), (73, .iaload, 1, 0, 0, .null), (74, .iastore, 1, 0, 0, .null), (75, .aload_n 0, 1, 0, 0, .null), (76, .getfield 38, 3, 12, 13, .null), (79, .iload_n 1, 1, 1, 0, .null), (80, .aload_n 0, 1, 0, 0, .null), (81, .getfield 71, 3, 12, 41, .null), (84, .bipush 24, 2, 0, 0, .int 24), (86, .iload_n 1, 1, 1, 0, .null), (87, .iadd, 1, 0, 0, .null), (88, .iaload, 1, 0, 0, .null), (89, .iastore, 1, 0, 0, .null), (90, .iinc 1 1, 3, 1, 0, .int 1), (93, .goto (-54), 3, 0, 39, .null), (96, .iconst 0, 1, 0, 0, .int 0), (97, .istore_n 1, 1, 1, 0, .null), (98, .iload_n 1, 1, 1, 0, .null), (99, .iconst 4, 1, 0, 0, .int 4), (100, .if_icmp .ge 39, 3, 0, 139, .null), (103, .aload_n 0, 1, 0, 0, .null), (104, .getfield 26, 3, 12, 8, .null), (107, .iload_n 1, 1, 1, 0, .null), (108, .aload_n 0, 1, 0, 0, .null), (109, .getfield 71, 3, 12, 41, .null), (112, .bipush 30, 2, 0, 0, .int 30), (114, .iload_n 1, 1, 1, 0, .null), (115, .iadd, 1, 0, 0, .null), (116, .iaload, 1, 0, 0, .null), (117, .iastore, 1, 0, 0, .null), (118, .aload_n 0, 1, 0, 0, .null), (119, .getfield 29, 3, 12, 9, .null), (122, .iload_n 1, 1, 1, 0, .null), (123, .aload_n 0, 1, 0, 0, .null), (124, .getfield 71, 3, 12, 41, .null), (127, .bipush 34, 2, 0, 0, .int 34), (129, .iload_n 1, 1, 1, 0, .null), (130, .iadd, 1, 0, 0, .null), (131, .iaload, 1, 0, 0, .null), (132, .iastore, 1, 0, 0, .null), (133, .iinc 1 1, 3, 1, 0, .int 1), (136, .goto (-38), 3, 0, 98, .null), (139, .aload_n 0, 1, 0, 0, .null), (140, .aload_n 0, 1, 0, 0, .null), (141, .getfield 74, 3, 12, 42, .null), (144, .putfield 97, 3, 12, 10, .null), (147, .aload_n 0, 1, 0, 0, .null), (148, .aload_n 0, 1, 0, 0, .null), (149, .getfield 344, 3, 12, 43, .null), (152, .putfield 104, 3, 12, 14, .null), (155, .aload_n 0, 1, 0, 0, .null), (156, .aload_n 0, 1, 0, 0, .null), (157, .getfield 347, 3, 12, 44, .null), (160, .putfield 253, 3, 12, 4, .null), (163, .aload_n 0, 1, 0, 0, .null), (164, .getfield 104, 3, 12, 14, .null), (167, .ireturn, 1, 0, 0, .null)]
theorem ok_Mo_back : cd_Mo_back.all (mm_k M_Mo_back) = true := by decide +kernel
abbrev M_Mo_count : mm_M := (⟨"SchoolOnRaftModel", "count", "(I)I"⟩, prog_14_method_72_code, 4, (some .int))
def cd_Mo_count : List mm_E := [(0, .iload_n 1, 1, 1, 0, .null), (1, .i2l, 1, 0, 0, .null), (2, .lconst 0, 1, 0, 0, .long 0), (3, .ldc2_w 107, 3, 0, 0, .long 5), (6, .invokestatic 100, 3, 0, 0, .null), (9, .ifCond .ne 6, 3, 0, 15, .null), (12, .bipush (-2), 2, 0, 0, .int (-2)), (14, .ireturn, 1, 0, 0, .null), (15, .iload_n 1, 1, 1, 0, .null), (16, .iconst 2, 1, 0, 0, .int 2), (17, .if_icmp .ge 19, 3, 0, 36, .null), (20, .iload_n 1, 1, 1, 0, .null), (21, .ifCond .ne 10, 3, 0, 31, .null), (24, .aload_n 0, 1, 0, 0, .null), (25, .getfield 97, 3, 12, 10, .null), (28, .goto 7, 3, 0, 35, .null), (31, .aload_n 0, 1, 0, 0, .null), (32, .getfield 104, 3, 12, 14, .null), (35, .ireturn, 1, 0, 0, .null), (36, .iload_n 1, 1, 1, 0, .null), (37, .iconst 2, 1, 0, 0, .int 2), (38, .if_icmp .le 32, 3, 0, 70, .null), (41, .iload_n 1, 1, 1, 0, .null), (42, .iconst 3, 1, 0, 0, .int 3), (43, .if_icmp .ne 10, 3, 0, 53, .null), (46, .aload_n 0, 1, 0, 0, .null), (47, .getfield 94, 3, 12, 3, .null), (50, .goto 19, 3, 0, 69, .null), (53, .iload_n 1, 1, 1, 0, .null), (54, .iconst 4, 1, 0, 0, .int 4), (55, .if_icmp .ne 10, 3, 0, 65, .null), (58, .aload_n 0, 1, 0, 0, .null), (59, .getfield 135, 3, 12, 6, .null), (62, .goto 7, 3, 0, 69, .null), (65, .aload_n 0, 1, 0, 0, .null), (66, .getfield 253, 3, 12, 4, .null), (69, .ireturn, 1, 0, 0, .null), (70, .iconst 0, 1, 0, 0, .int 0), (71, .istore_n 2, 1, 2, 0, .null), (72, .iconst 0, 1, 0, 0, .int 0), (73, .istore_n 3, 1, 3, 0, .null), (74, .iload_n 3, 1, 3, 0, .null), (75, .bipush 6, 2, 0, 0, .int 6), (77, .if_icmp .ge 27, 3, 0, 104, .null), (80, .iload_n 2, 1, 2, 0, .null), (81, .aload_n 0, 1, 0, 0, .null), (82, .getfield 41, 3, 12, 15, .null), (85, .iload_n 3, 1, 3, 0, .null), (86, .iaload, 1, 0, 0, .null), (87, .iconst (-1), 1, 0, 0, .int (-1)), (88, .if_icmp .ne 7, 3, 0, 95, .null), (91, .iconst 0, 1, 0, 0, .int 0), (92, .goto 4, 3, 0, 96, .null), (95, .iconst 1, 1, 0, 0, .int 1), (96, .iadd, 1, 0, 0, .null), (97, .istore_n 2, 1, 2, 0, .null), (98, .iinc 3 1, 3, 3, 0, .int 1), (101, .goto (-27), 3, 0, 74, .null), (104, .iload_n 2, 1, 2, 0, .null), (105, .ireturn, 1, 0, 0, .null)]
theorem ok_Mo_count : cd_Mo_count.all (mm_k M_Mo_count) = true := by decide +kernel
abbrev M_Mo_isSheet : mm_M := (⟨"SchoolOnRaftModel", "isSheet", "(I)Z"⟩, prog_14_method_73_code, 1, (some .boolean))
def cd_Mo_isSheet : List mm_E := [(0, .iload_n 0, 1, 0, 0, .null), (1, .i2l, 1, 0, 0, .null), (2, .lconst 0, 1, 0, 0, .long 0), (3, .ldc2_w 350, 3, 0, 0, .long 3), (6, .invokestatic 100, 3, 0, 0, .null), (9, .ireturn, 1, 0, 0, .null)]
theorem ok_Mo_isSheet : cd_Mo_isSheet.all (mm_k M_Mo_isSheet) = true := by decide +kernel
abbrev M_Mo_sheet : mm_M := (⟨"SchoolOnRaftModel", "sheet", "(III)I"⟩, prog_14_method_74_code, 5, (some .int))
def cd_Mo_sheet : List mm_E := [(0, .iload_n 1, 1, 1, 0, .null), (1, .invokestatic 323, 3, 0, 0, .null), (4, .ifCond .eq 27, 3, 0, 31, .null), (7, .iload_n 2, 1, 2, 0, .null), (8, .i2l, 1, 0, 0, .null), (9, .ldc2_w 352, 3, 0, 0, .long (-1)), (12, .ldc2_w 318, 3, 0, 0, .long 2), (15, .invokestatic 100, 3, 0, 0, .null), (18, .ifCond .eq 13, 3, 0, 31, .null), (21, .iload_n 2, 1, 2, 0, .null), (22, .ifCond .lt 12, 3, 0, 34, .null), (25, .iload_n 3, 1, 3, 0, .null), (26, .bipush 40, 2, 0, 0, .int 40), (28, .if_icmp .le 6, 3, 0, 34, .null), (31, .bipush (-2), 2, 0, 0, .int (-2)), (33, .ireturn, 1, 0, 0, .null), (34, .iload_n 2, 1, 2, 0, .null), (35, .ifCond .lt 10, 3, 0, 45, .null), (38, .iload_n 3, 1, 3, 0, .null), (39, .ifCond .ge 6, 3, 0, 45, .null), (42, .bipush (-14), 2, 0, 0, .int (-14)), (44, .ireturn, 1, 0, 0, .null), (45, .aload_n 0, 1, 0, 0, .null), (46, .getfield 77, 3, 12, 45, .null), (49, .iload_n 1, 1, 1, 0, .null), (50, .iload_n 2, 1, 2, 0, .null), (51, .ifCond .lt 7, 3, 0, 58, .null), (54, .iconst 1, 1, 0, 0, .int 1), (55, .goto 4, 3, 0, 59, .null), (58, .iconst 0, 1, 0, 0, .int 0), (59, .bastore, 1, 0, 0, .null), (60, .aload_n 0, 1, 0, 0, .null), (61, .getfield 81, 3, 12, 46, .null), (64, .iload_n 1, 1, 1, 0, .null), (65, .iload_n 2, 1, 2, 0, .null), (66, .iastore, 1, 0, 0, .null), (67, .aload_n 0, 1, 0, 0, .null), (68, .getfield 84, 3, 12, 47, .null), (71, .iload_n 1, 1, 1, 0, .null), (72, .iload_n 3, 1, 3, 0, .null), (73, .iastore, 1, 0, 0, .null), (74, .iconst 0, 1, 0, 0, .int 0), (75, .istore 4, 2, 4, 0, .null), (77, .iload 4, 2, 4, 0, .null), (79, .iload_n 3, 1, 3, 0, .null), (80, .if_icmp .ge 26, 3, 0, 106, .null), (83, .iload_n 2, 1, 2, 0, .null), (84, .ifCond .lt 22, 3, 0, 106, .null), (87, .aload_n 0, 1, 0, 0, .null), (88, .getfield 87, 3, 12, 48, .null), (91, .bipush 40, 2, 0, 0, .int 40), (93, .iload_n 1, 1, 1, 0, .null), (94, .imul, 1, 0, 0, .null), (95, .iload 4, 2, 4, 0, .null), (97, .iadd, 1, 0, 0, .null), (98, .iconst 0, 1, 0, 0, .int 0), (99, .iastore, 1, 0, 0, .null), (100, .iinc 4 1, 3, 4, 0, .int 1), (103, .goto (-26), 3, 0, 77, .null), (106, .iconst 1, 1, 0, 0, .int 1), (107, .ireturn, 1, 0, 0, .null)]
theorem ok_Mo_sheet : cd_Mo_sheet.all (mm_k M_Mo_sheet) = true := by decide +kernel
abbrev M_Mo_cell : mm_M := (⟨"SchoolOnRaftModel", "cell", "(III)I"⟩, prog_14_method_75_code, 4, (some .int))
def cd_Mo_cell : List mm_E := [(0, .iload_n 1, 1, 1, 0, .null), (1, .invokestatic 323, 3, 0, 0, .null), (4, .ifCond .ne 6, 3, 0, 10, .null), (7, .bipush (-2), 2, 0, 0, .int (-2)), (9, .ireturn, 1, 0, 0, .null), (10, .aload_n 0, 1, 0, 0, .null), (11, .getfield 77, 3, 12, 45, .null), (14, .iload_n 1, 1, 1, 0, .null), (15, .baload, 1, 0, 0, .null), (16, .ifCond .ne 6, 3, 0, 22, .null), (19, .bipush (-11), 2, 0, 0, .int (-11)), (21, .ireturn, 1, 0, 0, .null), (22, .iload_n 2, 1, 2, 0, .null), (23, .i2l, 1, 0, 0, .null), (24, .lconst 0, 1, 0, 0, .long 0), (25, .aload_n 0, 1, 0, 0, .null), (26, .getfield 84, 3, 12, 47, .null), (29, .iload_n 1, 1, 1, 0, .null), (30, .iaload, 1, 0, 0, .null), (31, .iconst 1, 1, 0, 0, .int 1), (32, .isub, 1, 0, 0, .null), (33, .i2l, 1, 0, 0, .null), (34, .invokestatic 100, 3, 0, 0, .null), (37, .ifCond .ne 6, 3, 0, 43, .null), (40, .bipush (-12), 2, 0, 0, .int (-12)), (42, .ireturn, 1, 0, 0, .null), (43, .aload_n 0, 1, 0, 0, .null), (44, .getfield 87, 3, 12, 48, .null), (47, .bipush 40, 2, 0, 0, .int 40), (49, .iload_n 1, 1, 1, 0, .null), (50, .imul, 1, 0, 0, .null), (51, .iload_n 2, 1, 2, 0, .null), (52, .iadd, 1, 0, 0, .null), (53, .aload_n 0, 1, 0, 0, .null), (54, .getfield 81, 3, 12, 46, .null), (57, .iload_n 1, 1, 1, 0, .null), (58, .iaload, 1, 0, 0, .null), (59, .ifCond .ne 8, 3, 0, 67, .null), (62, .iload_n 3, 1, 3, 0, .null), (63, .i2b, 1, 0, 0, .null), (64, .goto 19, 3, 0, 83, .null), (67, .aload_n 0, 1, 0, 0, .null), (68, .getfield 81, 3, 12, 46, .null), (71, .iload_n 1, 1, 1, 0, .null), (72, .iaload, 1, 0, 0, .null), (73, .iconst 1, 1, 0, 0, .int 1), (74, .if_icmp .ne 8, 3, 0, 82, .null), (77, .iload_n 3, 1, 3, 0, .null), (78, .i2s, 1, 0, 0, .null), (79, .goto 4, 3, 0, 83, .null), (82, .iload_n 3, 1, 3, 0, .null), (83, .iastore, 1, 0, 0, .null), (84, .iconst 1, 1, 0, 0, .int 1), (85, .ireturn, 1, 0, 0, .null)]
theorem ok_Mo_cell : cd_Mo_cell.all (mm_k M_Mo_cell) = true := by decide +kernel
abbrev M_Mo_copy : mm_M := (⟨"SchoolOnRaftModel", "copy", "(IIIII)I"⟩, prog_14_method_76_code, 9, (some .int))
def cd_Mo_copy : List mm_E := [(0, .iload_n 1, 1, 1, 0, .null), (1, .invokestatic 323, 3, 0, 0, .null), (4, .ifCond .eq 10, 3, 0, 14, .null), (7, .iload_n 3, 1, 3, 0, .null), (8, .invokestatic 323, 3, 0, 0, .null), (11, .ifCond .ne 6, 3, 0, 17, .null), (14, .bipush (-2), 2, 0, 0, .int (-2)), (16, .ireturn, 1, 0, 0, .null), (17, .aload_n 0, 1, 0, 0, .null), (18, .getfield 77, 3, 12, 45, .null), (21, .iload_n 1, 1, 1, 0, .null), (22, .baload, 1, 0, 0, .null), (23, .ifCond .eq 12, 3, 0, 35, .null), (26, .aload_n 0, 1, 0, 0, .null), (27, .getfield 77, 3, 12, 45, .null), (30, .iload_n 3, 1, 3, 0, .null), (31, .baload, 1, 0, 0, .null), (32, .ifCond .ne 6, 3, 0, 38, .null), (35, .bipush (-11), 2, 0, 0, .int (-11)), (37, .ireturn, 1, 0, 0, .null), (38, .aload_n 0, 1, 0, 0, .null), (39, .getfield 81, 3, 12, 46, .null), (42, .iload_n 1, 1, 1, 0, .null), (43, .iaload, 1, 0, 0, .null), (44, .aload_n 0, 1, 0, 0, .null), (45, .getfield 81, 3, 12, 46, .null), (48, .iload_n 3, 1, 3, 0, .null), (49, .iaload, 1, 0, 0, .null), (50, .if_icmp .eq 6, 3, 0, 56, .null), (53, .bipush (-13), 2, 0, 0, .int (-13)), (55, .ireturn, 1, 0, 0, .null), (56, .iload 5, 2, 5, 0, .null), (58, .ifCond .lt 39, 3, 0, 97, .null), (61, .iload_n 2, 1, 2, 0, .null), (62, .ifCond .lt 35, 3, 0, 97, .null), (65, .iload 4, 2, 4, 0, .null), (67, .ifCond .lt 30, 3, 0, 97, .null), (70, .iload_n 2, 1, 2, 0, .null), (71, .aload_n 0, 1, 0, 0, .null), (72, .getfield 84, 3, 12, 47, .null), (75, .iload_n 1, 1, 1, 0, .null), (76, .iaload, 1, 0, 0, .null), (77, .iload 5, 2, 5, 0, .null), (79, .isub, 1, 0, 0, .null), (80, .if_icmp .gt 17, 3, 0, 97, .null), (83, .iload 4, 2, 4, 0, .null), (85, .aload_n 0, 1, 0, 0, .null), (86, .getfield 84, 3, 12, 47, .null), (89, .iload_n 3, 1, 3, 0, .null), (90, .iaload, 1, 0, 0, .null), (91, .iload 5, 2, 5, 0, .null), (93, .isub, 1, 0, 0, .null), (94, .if_icmp .le 6, 3, 0, 100, .null), (97, .bipush (-12), 2, 0, 0, .int (-12)), (99, .ireturn, 1, 0, 0, .null), (100, .iload_n 1, 1, 1, 0, .null), (101, .iload_n 3, 1, 3, 0, .null), (102, .if_icmp .ne 13, 3, 0, 115, .null), (105, .iload_n 2, 1, 2, 0, .null), (106, .iload 4, 2, 4, 0, .null), (108, .if_icmp .ge 7, 3, 0, 115, .null), (111, .iconst 1, 1, 0, 0, .int 1), (112, .goto 4, 3, 0, 116, .null), (115, .iconst 0, 1, 0, 0, .int 0), (116, .istore 6, 2, 6, 0, .null), (118, .iconst 0, 1, 0, 0, .int 0), (119, .istore 7, 2, 7, 0, .null), (121, .iload 7, 2, 7, 0, .null), (123, .iload 5, 2, 5, 0, .null), (125, .if_icmp .ge 57, 3, 0, 182, .null), (128, .iload 6, 2, 6, 0, .null), (130, .ifCond .eq 13, 3, 0, 143, .null), (133, .iload 5, 2, 5, 0, .null), (135, .iconst 1, 1, 0, 0, .int 1), (136, .isub, 1, 0, 0, .null), (137, .iload 7, 2, 7, 0, .null), (139, .isub, 1, 0, 0, .null), (140, .goto 5, 3, 0, 145, .null), (143, .iload 7, 2, 7, 0, .null), (145, .istore 8, 2, 8, 0, .null), (147, .aload_n 0, 1, 0, 0, .null), (148, .getfield 87, 3, 12, 48, .null), (151, .bipush 40, 2, 0, 0, .int 40), (153, .iload_n 3, 1, 3, 0, .null), (154, .imul, 1, 0, 0, .null), (155, .iload 4, 2, 4, 0, .null), (157, .iadd, 1, 0, 0, .null), (158, .iload 8, 2, 8, 0, .null), (160, .iadd, 1, 0, 0, .null), (161, .aload_n 0, 1, 0, 0, .null), (162, .getfield 87, 3, 12, 48, .null), (165, .bipush 40, 2, 0, 0, .int 40), (167, .iload_n 1, 1, 1, 0, .null), (168, .imul, 1, 0, 0, .null), (169, .iload_n 2, 1, 2, 0, .null), (170, .iadd, 1, 0, 0, .null), (171, .iload 8, 2, 8, 0, .null), (173, .iadd, 1, 0, 0, .null), (174, .iaload, 1, 0, 0, .null), (175, .iastore, 1, 0, 0, .null), (176, .iinc 7 1, 3, 7, 0, .int 1), (179, .goto (-58), 3, 0, 121, .null), (182, .iload 5, 2, 5, 0, .null), (184, .ireturn, 1, 0, 0, .null)]
theorem ok_Mo_copy : cd_Mo_copy.all (mm_k M_Mo_copy) = true := by decide +kernel
abbrev M_Mo_children : mm_M := (⟨"SchoolOnRaftModel", "children", "(IIII)I"⟩, prog_14_method_77_code, 8, (some .int))
def cd_Mo_children : List mm_E := [(0, .iload_n 1, 1, 1, 0, .null), (1, .invokestatic 323, 3, 0, 0, .null), (4, .ifCond .eq 28, 3, 0, 32, .null), (7, .iload_n 2, 1, 2, 0, .null), (8, .i2l, 1, 0, 0, .null), (9, .lconst 0, 1, 0, 0, .long 0), (10, .ldc2_w 318, 3, 0, 0, .long 2), (13, .invokestatic 100, 3, 0, 0, .null), (16, .ifCond .eq 16, 3, 0, 32, .null), (19, .iload 4, 2, 4, 0, .null), (21, .i2l, 1, 0, 0, .null), (22, .lconst 0, 1, 0, 0, .long 0), (23, .ldc2_w 313, 3, 0, 0, .long 6), (26, .invokestatic 100, 3, 0, 0, .null), (29, .ifCond .ne 6, 3, 0, 35, .null), (32, .bipush (-2), 2, 0, 0, .int (-2)), (34, .ireturn, 1, 0, 0, .null), (35, .aload_n 0, 1, 0, 0, .null), (36, .getfield 77, 3, 12, 45, .null), (39, .iload_n 1, 1, 1, 0, .null), (40, .baload, 1, 0, 0, .null), (41, .ifCond .eq 16, 3, 0, 57, .null), (44, .aload_n 0, 1, 0, 0, .null), (45, .getfield 81, 3, 12, 46, .null), (48, .iload_n 1, 1, 1, 0, .null), (49, .iaload, 1, 0, 0, .null), (50, .iload_n 2, 1, 2, 0, .null), (51, .if_icmp .eq 6, 3, 0, 57, .null), (54, .bipush (-13), 2, 0, 0, .int (-13)), (56, .ireturn, 1, 0, 0, .null), (57, .aload_n 0, 1, 0, 0, .null), (58, .getfield 77, 3, 12, 45, .null), (61, .iload_n 1, 1, 1, 0, .null), (62, .baload, 1, 0, 0, .null), (63, .ifCond .ne 6, 3, 0, 69, .null), (66, .bipush (-11), 2, 0, 0, .int (-11)), (68, .ireturn, 1, 0, 0, .null), (69, .iconst 0, 1, 0, 0, .int 0), (70, .istore 5, 2, 5, 0, .null), (72, .iconst 0, 1, 0, 0, .int 0), (73, .istore 6, 2, 6, 0, .null), (75, .iload 6, 2, 6, 0, .null), (77, .iload 4, 2, 4, 0, .null), (79, .if_icmp .ge 79, 3, 0, 158, .null), (82, .iload_n 3, 1, 3, 0, .null), (83, .ifCond .lt 20, 3, 0, 103, .null), (86, .iload_n 3, 1, 3, 0, .null), (87, .aload_n 0, 1, 0, 0, .null), (88, .getfield 84, 3, 12, 47, .null), (91, .iload_n 1, 1, 1, 0, .null), (92, .iaload, 1, 0, 0, .null), (93, .iconst 2, 1, 0, 0, .int 2), (94, .iload 6, 2, 6, 0, .null), (96, .imul, 1, 0, 0, .null), (97, .isub, 1, 0, 0, .null), (98, .iconst 2, 1, 0, 0, .int 2), (99, .isub, 1, 0, 0, .null), (100, .if_icmp .le 6, 3, 0, 106, .null), (103, .bipush (-12), 2, 0, 0, .int (-12)), (105, .ireturn, 1, 0, 0, .null), (106, .bipush 40, 2, 0, 0, .int 40), (108, .iload_n 1, 1, 1, 0, .null), (109, .imul, 1, 0, 0, .null), (110, .iload_n 3, 1, 3, 0, .null), (111, .iadd, 1, 0, 0, .null), (112, .iconst 2, 1, 0, 0, .int 2), (113, .iload 6, 2, 6, 0, .null), (115, .imul, 1, 0, 0, .null), (116, .iadd, 1, 0, 0, .null), (117, .istore 7, 2, 7, 0, .null), (119, .iload 5, 2, 5, 0, .null), (121, .aload_n 0, 1, 0, 0, .null), (122, .aload_n 0, 1, 0, 0, .null), (123, .getfield 87, 3, 12, 48, .null), (126, .iload 7, 2, 7, 0, .null), (128, .iaload, 1, 0, 0, .null), (129, .aload_n 0, 1, 0, 0, .null), (130, .getfield 87, 3, 12, 48, .null), (133, .iload 7, 2, 7, 0, .null), (135, .iconst 1, 1, 0, 0, .int 1), (136, .iadd, 1, 0, 0, .null), (137, .iaload, 1, 0, 0, .null), (138, .invokevirtual 354, 3, 0, 0, .null), (141, .ifCond .lt 7, 3, 0, 148, .null), (144, .iconst 1, 1, 0, 0, .int 1), (145, .goto 4, 3, 0, 149, .null), (148, .iconst 0, 1, 0, 0, .int 0), (149, .iadd, 1, 0, 0, .null), (150, .istore 5, 2, 5, 0, .null), (152, .iinc 6 1, 3, 6, 0, .int 1), (155, .goto (-80), 3, 0, 75, .null), (158, .iload 5, 2, 5, 0, .null), (160, .ireturn, 1, 0, 0, .null)]
theorem ok_Mo_children : cd_Mo_children.all (mm_k M_Mo_children) = true := by decide +kernel
abbrev M_Mo_over : mm_M := (⟨"SchoolOnRaftModel", "over", "(I)I"⟩, prog_14_method_78_code, 1, (some .int))
def cd_Mo_over : List mm_E := [(0, .iload_n 0, 1, 0, 0, .null), (1, .ifCond .ne 7, 3, 0, 8, .null), (4, .iconst (-1), 1, 0, 0, .int (-1)), (5, .goto 27, 3, 0, 32, .null), (8, .iload_n 0, 1, 0, 0, .null), (9, .iconst 1, 1, 0, 0, .int 1), (10, .if_icmp .eq 8, 3, 0, 18, .null), (13, .iload_n 0, 1, 0, 0, .null), (14, .iconst 2, 1, 0, 0, .int 2), (15, .if_icmp .ne 7, 3, 0, 22, .null), (18, .iconst 0, 1, 0, 0, .int 0), (19, .goto 13, 3, 0, 32, .null), (22, .iload_n 0, 1, 0, 0, .null), (23, .iconst 4, 1, 0, 0, .int 4), (24, .if_icmp .ne 7, 3, 0, 31, .null), (27, .iconst 2, 1, 0, 0, .int 2), (28, .goto 4, 3, 0, 32, .null), (31, .iconst 1, 1, 0, 0, .int 1), (32, .ireturn, 1, 0, 0, .null)]
theorem ok_Mo_over : cd_Mo_over.all (mm_k M_Mo_over) = true := by decide +kernel
abbrev M_Mo_taken : mm_M := (⟨"SchoolOnRaftModel", "taken", "(II)I"⟩, prog_14_method_79_code, 4, (some .int))
def cd_Mo_taken : List mm_E := [(0, .iload_n 2, 1, 2, 0, .null), (1, .i2l, 1, 0, 0, .null), (2, .lconst 0, 1, 0, 0, .long 0), (3, .ldc2_w 107, 3, 0, 0, .long 5), (6, .invokestatic 100, 3, 0, 0, .null), (9, .ifCond .ne 6, 3, 0, 15, .null), (12, .bipush (-2), 2, 0, 0, .int (-2)), (14, .ireturn, 1, 0, 0, .null), (15, .aload_n 0, 1, 0, 0, .null), (16, .iload_n 1, 1, 1, 0, .null), (17, .invokevirtual 117, 3, 0, 0, .null), (20, .ifCond .ne 6, 3, 0, 26, .null), (23, .bipush (-11), 2, 0, 0, .int (-11)), (25, .ireturn, 1, 0, 0, .null), (26, .aload_n 0, 1, 0, 0, .null), (27, .getfield 23, 3, 12, 7, .null), (30, .iload_n 1, 1, 1, 0, .null), (31, .iaload, 1, 0, 0, .null), (32, .istore_n 3, 1, 3, 0, .null), (33, .iload_n 3, 1, 3, 0, .null), (34, .iconst (-1), 1, 0, 0, .int (-1)), (35, .if_icmp .eq 16, 3, 0, 51, .null), (38, .iload_n 3, 1, 3, 0, .null), (39, .iload_n 2, 1, 2, 0, .null), (40, .if_icmp .eq 11, 3, 0, 51, .null), (43, .iload_n 3, 1, 3, 0, .null), (44, .invokestatic 357, 3, 0, 0, .null), (47, .istore_n 3, 1, 3, 0, .null), (48, .goto (-15), 3, 0, 33, .null), (51, .iload_n 3, 1, 3, 0, .null), (52, .iload_n 2, 1, 2, 0, .null), (53, .if_icmp .ne 12, 3, 0, 65, .null), (56, .aload_n 0, 1, 0, 0, .null), (57, .getfield 26, 3, 12, 8, .null), (60, .iload_n 1, 1, 1, 0, .null), (61, .iaload, 1, 0, 0, .null), (62, .goto 5, 3, 0, 67, .null), (65, .bipush (-13), 2, 0, 0, .int (-13)), (67, .ireturn, 1, 0, 0, .null)]
theorem ok_Mo_taken : cd_Mo_taken.all (mm_k M_Mo_taken) = true := by decide +kernel
end
section
/-! ===== code, written by program out of the listing ===== -/
abbrev M_La_law : mm_M := (⟨"SchoolOnRaftLaw", "law", "([I)Z"⟩, code, 4, (some .boolean))
def cd_La_law_0 : List mm_E := [(0, .new 7, 3, 0, 0, .null), (3, .dup, 1, 0, 0, .null), (4, .invokespecial 9, 3, 0, 0, .null), (7, .astore_n 1, 1, 1, 0, .null), (8, .new 10, 3, 0, 0, .null), (11, .dup, 1, 0, 0, .null), (12, .invokespecial 12, 3, 0, 0, .null), (15, .astore_n 2, 1, 2, 0, .null), (16, .iconst 0, 1, 0, 0, .int 0), (17, .istore_n 3, 1, 3, 0, .null), (18, .iload_n 3, 1, 3, 0, .null), (19, .aload_n 0, 1, 0, 0, .null), (20, .arraylength, 1, 0, 0, .null), (21, .bipush 6, 2, 0, 0, .int 6), (23, .isub, 1, 0, 0, .null), (24, .if_icmp .gt 1188, 3, 0, 1212, .null), (27, .aload_n 0, 1, 0, 0, .null), (28, .iload_n 3, 1, 3, 0, .null), (29, .iaload, 1, 0, 0, .null), (30, .bipush 31, 2, 0, 0, .int 31), (32, .iand, 1, 0, 0, .null), (33, .tableswitch 1173 0 30 #[139, 182, 215, 258, 291, 334, 367, 390, 403, 426, 459, 502, 525, 548, 561, 604, 637, 670, 703, 746, 769, 792, 825, 889, 902, 915, 938, 981, 1024, 1087, 1140], 139, 0, 0, .null), (172, .aload_n 1, 1, 1, 0, .null), (173, .aload_n 0, 1, 0, 0, .null), (174, .iload_n 3, 1, 3, 0, .null), (175, .iconst 1, 1, 0, 0, .int 1), (176, .iadd, 1, 0, 0, .null), (177, .iaload, 1, 0, 0, .null), (178, .aload_n 0, 1, 0, 0, .null), (179, .iload_n 3, 1, 3, 0, .null), (180, .iconst 2, 1, 0, 0, .int 2), (181, .iadd, 1, 0, 0, .null), (182, .iaload, 1, 0, 0, .null), (183, .aload_n 0, 1, 0, 0, .null), (184, .iload_n 3, 1, 3, 0, .null), (185, .iconst 3, 1, 0, 0, .int 3), (186, .iadd, 1, 0, 0, .null), (187, .iaload, 1, 0, 0, .null), (188, .invokevirtual 13, 3, 0, 0, .null), (191, .aload_n 2, 1, 2, 0, .null), (192, .aload_n 0, 1, 0, 0, .null), (193, .iload_n 3, 1, 3, 0, .null), (194, .iconst 1, 1, 0, 0, .int 1), (195, .iadd, 1, 0, 0, .null), (196, .iaload, 1, 0, 0, .null), (197, .aload_n 0, 1, 0, 0, .null), (198, .iload_n 3, 1, 3, 0, .null), (199, .iconst 2, 1, 0, 0, .int 2), (200, .iadd, 1, 0, 0, .null), (201, .iaload, 1, 0, 0, .null)]
theorem ok_La_law_0 : cd_La_law_0.all (mm_k M_La_law) = true := by decide +kernel
def cd_La_law_1 : List mm_E := [(202, .aload_n 0, 1, 0, 0, .null), (203, .iload_n 3, 1, 3, 0, .null), (204, .iconst 3, 1, 0, 0, .int 3), (205, .iadd, 1, 0, 0, .null), (206, .iaload, 1, 0, 0, .null), (207, .invokevirtual 17, 3, 0, 0, .null), (210, .if_icmp .eq 996, 3, 0, 1206, .null), (213, .iconst 0, 1, 0, 0, .int 0), (214, .ireturn, 1, 0, 0, .null), (215, .aload_n 1, 1, 1, 0, .null), (216, .aload_n 0, 1, 0, 0, .null), (217, .iload_n 3, 1, 3, 0, .null), (218, .iconst 1, 1, 0, 0, .int 1), (219, .iadd, 1, 0, 0, .null), (220, .iaload, 1, 0, 0, .null), (221, .aload_n 0, 1, 0, 0, .null), (222, .iload_n 3, 1, 3, 0, .null), (223, .iconst 2, 1, 0, 0, .int 2), (224, .iadd, 1, 0, 0, .null), (225, .iaload, 1, 0, 0, .null), (226, .invokevirtual 18, 3, 0, 0, .null), (229, .aload_n 2, 1, 2, 0, .null), (230, .aload_n 0, 1, 0, 0, .null), (231, .iload_n 3, 1, 3, 0, .null), (232, .iconst 1, 1, 0, 0, .int 1), (233, .iadd, 1, 0, 0, .null), (234, .iaload, 1, 0, 0, .null), (235, .aload_n 0, 1, 0, 0, .null), (236, .iload_n 3, 1, 3, 0, .null), (237, .iconst 2, 1, 0, 0, .int 2), (238, .iadd, 1, 0, 0, .null), (239, .iaload, 1, 0, 0, .null), (240, .invokevirtual 22, 3, 0, 0, .null), (243, .if_icmp .eq 963, 3, 0, 1206, .null), (246, .iconst 0, 1, 0, 0, .int 0), (247, .ireturn, 1, 0, 0, .null), (248, .aload_n 1, 1, 1, 0, .null), (249, .aload_n 0, 1, 0, 0, .null), (250, .iload_n 3, 1, 3, 0, .null), (251, .iconst 1, 1, 0, 0, .int 1), (252, .iadd, 1, 0, 0, .null), (253, .iaload, 1, 0, 0, .null), (254, .aload_n 0, 1, 0, 0, .null), (255, .iload_n 3, 1, 3, 0, .null), (256, .iconst 2, 1, 0, 0, .int 2), (257, .iadd, 1, 0, 0, .null), (258, .iaload, 1, 0, 0, .null), (259, .aload_n 0, 1, 0, 0, .null), (260, .iload_n 3, 1, 3, 0, .null), (261, .iconst 3, 1, 0, 0, .int 3)]
theorem ok_La_law_1 : cd_La_law_1.all (mm_k M_La_law) = true := by decide +kernel
def cd_La_law_2 : List mm_E := [(262, .iadd, 1, 0, 0, .null), (263, .iaload, 1, 0, 0, .null), (264, .invokevirtual 23, 3, 0, 0, .null), (267, .aload_n 2, 1, 2, 0, .null), (268, .aload_n 0, 1, 0, 0, .null), (269, .iload_n 3, 1, 3, 0, .null), (270, .iconst 1, 1, 0, 0, .int 1), (271, .iadd, 1, 0, 0, .null), (272, .iaload, 1, 0, 0, .null), (273, .aload_n 0, 1, 0, 0, .null), (274, .iload_n 3, 1, 3, 0, .null), (275, .iconst 2, 1, 0, 0, .int 2), (276, .iadd, 1, 0, 0, .null), (277, .iaload, 1, 0, 0, .null), (278, .aload_n 0, 1, 0, 0, .null), (279, .iload_n 3, 1, 3, 0, .null), (280, .iconst 3, 1, 0, 0, .int 3), (281, .iadd, 1, 0, 0, .null), (282, .iaload, 1, 0, 0, .null), (283, .invokevirtual 26, 3, 0, 0, .null), (286, .if_icmp .eq 920, 3, 0, 1206, .null), (289, .iconst 0, 1, 0, 0, .int 0), (290, .ireturn, 1, 0, 0, .null), (291, .aload_n 1, 1, 1, 0, .null), (292, .aload_n 0, 1, 0, 0, .null), (293, .iload_n 3, 1, 3, 0, .null), (294, .iconst 1, 1, 0, 0, .int 1), (295, .iadd, 1, 0, 0, .null), (296, .iaload, 1, 0, 0, .null), (297, .aload_n 0, 1, 0, 0, .null), (298, .iload_n 3, 1, 3, 0, .null), (299, .iconst 2, 1, 0, 0, .int 2), (300, .iadd, 1, 0, 0, .null), (301, .iaload, 1, 0, 0, .null), (302, .invokevirtual 27, 3, 0, 0, .null), (305, .aload_n 2, 1, 2, 0, .null), (306, .aload_n 0, 1, 0, 0, .null), (307, .iload_n 3, 1, 3, 0, .null), (308, .iconst 1, 1, 0, 0, .int 1), (309, .iadd, 1, 0, 0, .null), (310, .iaload, 1, 0, 0, .null), (311, .aload_n 0, 1, 0, 0, .null), (312, .iload_n 3, 1, 3, 0, .null), (313, .iconst 2, 1, 0, 0, .int 2), (314, .iadd, 1, 0, 0, .null), (315, .iaload, 1, 0, 0, .null), (316, .invokevirtual 30, 3, 0, 0, .null), (319, .if_icmp .eq 887, 3, 0, 1206, .null), (322, .iconst 0, 1, 0, 0, .int 0), (323, .ireturn, 1, 0, 0, .null)]
theorem ok_La_law_2 : cd_La_law_2.all (mm_k M_La_law) = true := by decide +kernel
def cd_La_law_3 : List mm_E := [(324, .aload_n 1, 1, 1, 0, .null), (325, .aload_n 0, 1, 0, 0, .null), (326, .iload_n 3, 1, 3, 0, .null), (327, .iconst 1, 1, 0, 0, .int 1), (328, .iadd, 1, 0, 0, .null), (329, .iaload, 1, 0, 0, .null), (330, .aload_n 0, 1, 0, 0, .null), (331, .iload_n 3, 1, 3, 0, .null), (332, .iconst 2, 1, 0, 0, .int 2), (333, .iadd, 1, 0, 0, .null), (334, .iaload, 1, 0, 0, .null), (335, .aload_n 0, 1, 0, 0, .null), (336, .iload_n 3, 1, 3, 0, .null), (337, .iconst 3, 1, 0, 0, .int 3), (338, .iadd, 1, 0, 0, .null), (339, .iaload, 1, 0, 0, .null), (340, .invokevirtual 31, 3, 0, 0, .null), (343, .aload_n 2, 1, 2, 0, .null), (344, .aload_n 0, 1, 0, 0, .null), (345, .iload_n 3, 1, 3, 0, .null), (346, .iconst 1, 1, 0, 0, .int 1), (347, .iadd, 1, 0, 0, .null), (348, .iaload, 1, 0, 0, .null), (349, .aload_n 0, 1, 0, 0, .null), (350, .iload_n 3, 1, 3, 0, .null), (351, .iconst 2, 1, 0, 0, .int 2), (352, .iadd, 1, 0, 0, .null), (353, .iaload, 1, 0, 0, .null), (354, .aload_n 0, 1, 0, 0, .null), (355, .iload_n 3, 1, 3, 0, .null), (356, .iconst 3, 1, 0, 0, .int 3), (357, .iadd, 1, 0, 0, .null), (358, .iaload, 1, 0, 0, .null), (359, .invokevirtual 34, 3, 0, 0, .null), (362, .if_icmp .eq 844, 3, 0, 1206, .null), (365, .iconst 0, 1, 0, 0, .int 0), (366, .ireturn, 1, 0, 0, .null), (367, .aload_n 1, 1, 1, 0, .null), (368, .aload_n 0, 1, 0, 0, .null), (369, .iload_n 3, 1, 3, 0, .null), (370, .iconst 1, 1, 0, 0, .int 1), (371, .iadd, 1, 0, 0, .null), (372, .iaload, 1, 0, 0, .null), (373, .aload_n 0, 1, 0, 0, .null), (374, .iload_n 3, 1, 3, 0, .null), (375, .iconst 2, 1, 0, 0, .int 2), (376, .iadd, 1, 0, 0, .null), (377, .iaload, 1, 0, 0, .null), (378, .invokevirtual 35, 3, 0, 0, .null), (381, .aload_n 2, 1, 2, 0, .null)]
theorem ok_La_law_3 : cd_La_law_3.all (mm_k M_La_law) = true := by decide +kernel
def cd_La_law_4 : List mm_E := [(382, .aload_n 0, 1, 0, 0, .null), (383, .iload_n 3, 1, 3, 0, .null), (384, .iconst 1, 1, 0, 0, .int 1), (385, .iadd, 1, 0, 0, .null), (386, .iaload, 1, 0, 0, .null), (387, .aload_n 0, 1, 0, 0, .null), (388, .iload_n 3, 1, 3, 0, .null), (389, .iconst 2, 1, 0, 0, .int 2), (390, .iadd, 1, 0, 0, .null), (391, .iaload, 1, 0, 0, .null), (392, .invokevirtual 38, 3, 0, 0, .null), (395, .if_icmp .eq 811, 3, 0, 1206, .null), (398, .iconst 0, 1, 0, 0, .int 0), (399, .ireturn, 1, 0, 0, .null), (400, .aload_n 1, 1, 1, 0, .null), (401, .aload_n 0, 1, 0, 0, .null), (402, .iload_n 3, 1, 3, 0, .null), (403, .iconst 1, 1, 0, 0, .int 1), (404, .iadd, 1, 0, 0, .null), (405, .iaload, 1, 0, 0, .null), (406, .invokevirtual 39, 3, 0, 0, .null), (409, .aload_n 2, 1, 2, 0, .null), (410, .aload_n 0, 1, 0, 0, .null), (411, .iload_n 3, 1, 3, 0, .null), (412, .iconst 1, 1, 0, 0, .int 1), (413, .iadd, 1, 0, 0, .null), (414, .iaload, 1, 0, 0, .null), (415, .invokevirtual 43, 3, 0, 0, .null), (418, .if_icmp .eq 788, 3, 0, 1206, .null), (421, .iconst 0, 1, 0, 0, .int 0), (422, .ireturn, 1, 0, 0, .null), (423, .aload_n 1, 1, 1, 0, .null), (424, .invokevirtual 44, 3, 0, 0, .null), (427, .aload_n 2, 1, 2, 0, .null), (428, .invokevirtual 48, 3, 0, 0, .null), (431, .if_icmp .eq 775, 3, 0, 1206, .null), (434, .iconst 0, 1, 0, 0, .int 0), (435, .ireturn, 1, 0, 0, .null), (436, .aload_n 1, 1, 1, 0, .null), (437, .aload_n 0, 1, 0, 0, .null), (438, .iload_n 3, 1, 3, 0, .null), (439, .iconst 1, 1, 0, 0, .int 1), (440, .iadd, 1, 0, 0, .null), (441, .iaload, 1, 0, 0, .null), (442, .invokevirtual 49, 3, 0, 0, .null), (445, .aload_n 2, 1, 2, 0, .null), (446, .aload_n 0, 1, 0, 0, .null), (447, .iload_n 3, 1, 3, 0, .null), (448, .iconst 1, 1, 0, 0, .int 1), (449, .iadd, 1, 0, 0, .null)]
theorem ok_La_law_4 : cd_La_law_4.all (mm_k M_La_law) = true := by decide +kernel
def cd_La_law_5 : List mm_E := [(450, .iaload, 1, 0, 0, .null), (451, .invokevirtual 52, 3, 0, 0, .null), (454, .if_icmp .eq 752, 3, 0, 1206, .null), (457, .iconst 0, 1, 0, 0, .int 0), (458, .ireturn, 1, 0, 0, .null), (459, .aload_n 1, 1, 1, 0, .null), (460, .aload_n 0, 1, 0, 0, .null), (461, .iload_n 3, 1, 3, 0, .null), (462, .iconst 1, 1, 0, 0, .int 1), (463, .iadd, 1, 0, 0, .null), (464, .iaload, 1, 0, 0, .null), (465, .aload_n 0, 1, 0, 0, .null), (466, .iload_n 3, 1, 3, 0, .null), (467, .iconst 2, 1, 0, 0, .int 2), (468, .iadd, 1, 0, 0, .null), (469, .iaload, 1, 0, 0, .null), (470, .invokevirtual 53, 3, 0, 0, .null), (473, .aload_n 2, 1, 2, 0, .null), (474, .aload_n 0, 1, 0, 0, .null), (475, .iload_n 3, 1, 3, 0, .null), (476, .iconst 1, 1, 0, 0, .int 1), (477, .iadd, 1, 0, 0, .null), (478, .iaload, 1, 0, 0, .null), (479, .aload_n 0, 1, 0, 0, .null), (480, .iload_n 3, 1, 3, 0, .null), (481, .iconst 2, 1, 0, 0, .int 2), (482, .iadd, 1, 0, 0, .null), (483, .iaload, 1, 0, 0, .null), (484, .invokevirtual 56, 3, 0, 0, .null), (487, .if_icmp .eq 719, 3, 0, 1206, .null), (490, .iconst 0, 1, 0, 0, .int 0), (491, .ireturn, 1, 0, 0, .null), (492, .aload_n 1, 1, 1, 0, .null), (493, .aload_n 0, 1, 0, 0, .null), (494, .iload_n 3, 1, 3, 0, .null), (495, .iconst 1, 1, 0, 0, .int 1), (496, .iadd, 1, 0, 0, .null), (497, .iaload, 1, 0, 0, .null), (498, .aload_n 0, 1, 0, 0, .null), (499, .iload_n 3, 1, 3, 0, .null), (500, .iconst 2, 1, 0, 0, .int 2), (501, .iadd, 1, 0, 0, .null), (502, .iaload, 1, 0, 0, .null), (503, .aload_n 0, 1, 0, 0, .null), (504, .iload_n 3, 1, 3, 0, .null), (505, .iconst 3, 1, 0, 0, .int 3), (506, .iadd, 1, 0, 0, .null), (507, .iaload, 1, 0, 0, .null), (508, .invokevirtual 57, 3, 0, 0, .null), (511, .aload_n 2, 1, 2, 0, .null)]
theorem ok_La_law_5 : cd_La_law_5.all (mm_k M_La_law) = true := by decide +kernel
end
section
/-! ===== code, written by program out of the listing ===== -/
def cd_La_law_6 : List mm_E := [(512, .aload_n 0, 1, 0, 0, .null), (513, .iload_n 3, 1, 3, 0, .null), (514, .iconst 1, 1, 0, 0, .int 1), (515, .iadd, 1, 0, 0, .null), (516, .iaload, 1, 0, 0, .null), (517, .aload_n 0, 1, 0, 0, .null), (518, .iload_n 3, 1, 3, 0, .null), (519, .iconst 2, 1, 0, 0, .int 2), (520, .iadd, 1, 0, 0, .null), (521, .iaload, 1, 0, 0, .null), (522, .aload_n 0, 1, 0, 0, .null), (523, .iload_n 3, 1, 3, 0, .null), (524, .iconst 3, 1, 0, 0, .int 3), (525, .iadd, 1, 0, 0, .null), (526, .iaload, 1, 0, 0, .null), (527, .invokevirtual 60, 3, 0, 0, .null), (530, .if_icmp .eq 676, 3, 0, 1206, .null), (533, .iconst 0, 1, 0, 0, .int 0), (534, .ireturn, 1, 0, 0, .null), (535, .aload_n 1, 1, 1, 0, .null), (536, .aload_n 0, 1, 0, 0, .null), (537, .iload_n 3, 1, 3, 0, .null), (538, .iconst 1, 1, 0, 0, .int 1), (539, .iadd, 1, 0, 0, .null), (540, .iaload, 1, 0, 0, .null), (541, .invokevirtual 61, 3, 0, 0, .null), (544, .aload_n 2, 1, 2, 0, .null), (545, .aload_n 0, 1, 0, 0, .null), (546, .iload_n 3, 1, 3, 0, .null), (547, .iconst 1, 1, 0, 0, .int 1), (548, .iadd, 1, 0, 0, .null), (549, .iaload, 1, 0, 0, .null), (550, .invokevirtual 64, 3, 0, 0, .null), (553, .if_icmp .eq 653, 3, 0, 1206, .null), (556, .iconst 0, 1, 0, 0, .int 0), (557, .ireturn, 1, 0, 0, .null), (558, .aload_n 1, 1, 1, 0, .null), (559, .aload_n 0, 1, 0, 0, .null), (560, .iload_n 3, 1, 3, 0, .null), (561, .iconst 1, 1, 0, 0, .int 1), (562, .iadd, 1, 0, 0, .null), (563, .iaload, 1, 0, 0, .null), (564, .invokevirtual 65, 3, 0, 0, .null), (567, .aload_n 2, 1, 2, 0, .null), (568, .aload_n 0, 1, 0, 0, .null), (569, .iload_n 3, 1, 3, 0, .null), (570, .iconst 1, 1, 0, 0, .int 1), (571, .iadd, 1, 0, 0, .null), (572, .iaload, 1, 0, 0, .null), (573, .invokevirtual 68, 3, 0, 0, .null)]
theorem ok_La_law_6 : cd_La_law_6.all (mm_k M_La_law) = true := by decide +kernel
def cd_La_law_7 : List mm_E := [(576, .if_icmp .eq 630, 3, 0, 1206, .null), (579, .iconst 0, 1, 0, 0, .int 0), (580, .ireturn, 1, 0, 0, .null), (581, .aload_n 1, 1, 1, 0, .null), (582, .invokevirtual 69, 3, 0, 0, .null), (585, .aload_n 2, 1, 2, 0, .null), (586, .invokevirtual 72, 3, 0, 0, .null), (589, .if_icmp .eq 617, 3, 0, 1206, .null), (592, .iconst 0, 1, 0, 0, .int 0), (593, .ireturn, 1, 0, 0, .null), (594, .aload_n 1, 1, 1, 0, .null), (595, .aload_n 0, 1, 0, 0, .null), (596, .iload_n 3, 1, 3, 0, .null), (597, .iconst 1, 1, 0, 0, .int 1), (598, .iadd, 1, 0, 0, .null), (599, .iaload, 1, 0, 0, .null), (600, .aload_n 0, 1, 0, 0, .null), (601, .iload_n 3, 1, 3, 0, .null), (602, .iconst 2, 1, 0, 0, .int 2), (603, .iadd, 1, 0, 0, .null), (604, .iaload, 1, 0, 0, .null), (605, .aload_n 0, 1, 0, 0, .null), (606, .iload_n 3, 1, 3, 0, .null), (607, .iconst 3, 1, 0, 0, .int 3), (608, .iadd, 1, 0, 0, .null), (609, .iaload, 1, 0, 0, .null), (610, .invokevirtual 73, 3, 0, 0, .null), (613, .aload_n 2, 1, 2, 0, .null), (614, .aload_n 0, 1, 0, 0, .null), (615, .iload_n 3, 1, 3, 0, .null), (616, .iconst 1, 1, 0, 0, .int 1), (617, .iadd, 1, 0, 0, .null), (618, .iaload, 1, 0, 0, .null), (619, .aload_n 0, 1, 0, 0, .null), (620, .iload_n 3, 1, 3, 0, .null), (621, .iconst 2, 1, 0, 0, .int 2), (622, .iadd, 1, 0, 0, .null), (623, .iaload, 1, 0, 0, .null), (624, .aload_n 0, 1, 0, 0, .null), (625, .iload_n 3, 1, 3, 0, .null), (626, .iconst 3, 1, 0, 0, .int 3), (627, .iadd, 1, 0, 0, .null), (628, .iaload, 1, 0, 0, .null), (629, .invokevirtual 76, 3, 0, 0, .null), (632, .if_icmp .eq 574, 3, 0, 1206, .null), (635, .iconst 0, 1, 0, 0, .int 0), (636, .ireturn, 1, 0, 0, .null), (637, .aload_n 1, 1, 1, 0, .null), (638, .aload_n 0, 1, 0, 0, .null), (639, .iload_n 3, 1, 3, 0, .null)]
theorem ok_La_law_7 : cd_La_law_7.all (mm_k M_La_law) = true := by decide +kernel
def cd_La_law_8 : List mm_E := [(640, .iconst 1, 1, 0, 0, .int 1), (641, .iadd, 1, 0, 0, .null), (642, .iaload, 1, 0, 0, .null), (643, .aload_n 0, 1, 0, 0, .null), (644, .iload_n 3, 1, 3, 0, .null), (645, .iconst 2, 1, 0, 0, .int 2), (646, .iadd, 1, 0, 0, .null), (647, .iaload, 1, 0, 0, .null), (648, .invokevirtual 77, 3, 0, 0, .null), (651, .aload_n 2, 1, 2, 0, .null), (652, .aload_n 0, 1, 0, 0, .null), (653, .iload_n 3, 1, 3, 0, .null), (654, .iconst 1, 1, 0, 0, .int 1), (655, .iadd, 1, 0, 0, .null), (656, .iaload, 1, 0, 0, .null), (657, .aload_n 0, 1, 0, 0, .null), (658, .iload_n 3, 1, 3, 0, .null), (659, .iconst 2, 1, 0, 0, .int 2), (660, .iadd, 1, 0, 0, .null), (661, .iaload, 1, 0, 0, .null), (662, .invokevirtual 80, 3, 0, 0, .null), (665, .if_icmp .eq 541, 3, 0, 1206, .null), (668, .iconst 0, 1, 0, 0, .int 0), (669, .ireturn, 1, 0, 0, .null), (670, .aload_n 1, 1, 1, 0, .null), (671, .aload_n 0, 1, 0, 0, .null), (672, .iload_n 3, 1, 3, 0, .null), (673, .iconst 1, 1, 0, 0, .int 1), (674, .iadd, 1, 0, 0, .null), (675, .iaload, 1, 0, 0, .null), (676, .aload_n 0, 1, 0, 0, .null), (677, .iload_n 3, 1, 3, 0, .null), (678, .iconst 2, 1, 0, 0, .int 2), (679, .iadd, 1, 0, 0, .null), (680, .iaload, 1, 0, 0, .null), (681, .invokevirtual 81, 3, 0, 0, .null), (684, .aload_n 2, 1, 2, 0, .null), (685, .aload_n 0, 1, 0, 0, .null), (686, .iload_n 3, 1, 3, 0, .null), (687, .iconst 1, 1, 0, 0, .int 1), (688, .iadd, 1, 0, 0, .null), (689, .iaload, 1, 0, 0, .null), (690, .aload_n 0, 1, 0, 0, .null), (691, .iload_n 3, 1, 3, 0, .null), (692, .iconst 2, 1, 0, 0, .int 2), (693, .iadd, 1, 0, 0, .null), (694, .iaload, 1, 0, 0, .null), (695, .invokevirtual 84, 3, 0, 0, .null), (698, .if_icmp .eq 508, 3, 0, 1206, .null), (701, .iconst 0, 1, 0, 0, .int 0)]
theorem ok_La_law_8 : cd_La_law_8.all (mm_k M_La_law) = true := by decide +kernel
def cd_La_law_9 : List mm_E := [(702, .ireturn, 1, 0, 0, .null), (703, .aload_n 1, 1, 1, 0, .null), (704, .aload_n 0, 1, 0, 0, .null), (705, .iload_n 3, 1, 3, 0, .null), (706, .iconst 1, 1, 0, 0, .int 1), (707, .iadd, 1, 0, 0, .null), (708, .iaload, 1, 0, 0, .null), (709, .aload_n 0, 1, 0, 0, .null), (710, .iload_n 3, 1, 3, 0, .null), (711, .iconst 2, 1, 0, 0, .int 2), (712, .iadd, 1, 0, 0, .null), (713, .iaload, 1, 0, 0, .null), (714, .invokevirtual 85, 3, 0, 0, .null), (717, .aload_n 2, 1, 2, 0, .null), (718, .aload_n 0, 1, 0, 0, .null), (719, .iload_n 3, 1, 3, 0, .null), (720, .iconst 1, 1, 0, 0, .int 1), (721, .iadd, 1, 0, 0, .null), (722, .iaload, 1, 0, 0, .null), (723, .aload_n 0, 1, 0, 0, .null), (724, .iload_n 3, 1, 3, 0, .null), (725, .iconst 2, 1, 0, 0, .int 2), (726, .iadd, 1, 0, 0, .null), (727, .iaload, 1, 0, 0, .null), (728, .invokevirtual 88, 3, 0, 0, .null), (731, .if_icmp .eq 475, 3, 0, 1206, .null), (734, .iconst 0, 1, 0, 0, .int 0), (735, .ireturn, 1, 0, 0, .null), (736, .aload_n 1, 1, 1, 0, .null), (737, .aload_n 0, 1, 0, 0, .null), (738, .iload_n 3, 1, 3, 0, .null), (739, .iconst 1, 1, 0, 0, .int 1), (740, .iadd, 1, 0, 0, .null), (741, .iaload, 1, 0, 0, .null), (742, .aload_n 0, 1, 0, 0, .null), (743, .iload_n 3, 1, 3, 0, .null), (744, .iconst 2, 1, 0, 0, .int 2), (745, .iadd, 1, 0, 0, .null), (746, .iaload, 1, 0, 0, .null), (747, .aload_n 0, 1, 0, 0, .null), (748, .iload_n 3, 1, 3, 0, .null), (749, .iconst 3, 1, 0, 0, .int 3), (750, .iadd, 1, 0, 0, .null), (751, .iaload, 1, 0, 0, .null), (752, .invokevirtual 89, 3, 0, 0, .null), (755, .aload_n 2, 1, 2, 0, .null), (756, .aload_n 0, 1, 0, 0, .null), (757, .iload_n 3, 1, 3, 0, .null), (758, .iconst 1, 1, 0, 0, .int 1), (759, .iadd, 1, 0, 0, .null)]
theorem ok_La_law_9 : cd_La_law_9.all (mm_k M_La_law) = true := by decide +kernel
def cd_La_law_10 : List mm_E := [(760, .iaload, 1, 0, 0, .null), (761, .aload_n 0, 1, 0, 0, .null), (762, .iload_n 3, 1, 3, 0, .null), (763, .iconst 2, 1, 0, 0, .int 2), (764, .iadd, 1, 0, 0, .null), (765, .iaload, 1, 0, 0, .null), (766, .aload_n 0, 1, 0, 0, .null), (767, .iload_n 3, 1, 3, 0, .null), (768, .iconst 3, 1, 0, 0, .int 3), (769, .iadd, 1, 0, 0, .null), (770, .iaload, 1, 0, 0, .null), (771, .invokevirtual 92, 3, 0, 0, .null), (774, .if_icmp .eq 432, 3, 0, 1206, .null), (777, .iconst 0, 1, 0, 0, .int 0), (778, .ireturn, 1, 0, 0, .null), (779, .aload_n 1, 1, 1, 0, .null), (780, .aload_n 0, 1, 0, 0, .null), (781, .iload_n 3, 1, 3, 0, .null), (782, .iconst 1, 1, 0, 0, .int 1), (783, .iadd, 1, 0, 0, .null), (784, .iaload, 1, 0, 0, .null), (785, .invokevirtual 93, 3, 0, 0, .null), (788, .aload_n 2, 1, 2, 0, .null), (789, .aload_n 0, 1, 0, 0, .null), (790, .iload_n 3, 1, 3, 0, .null), (791, .iconst 1, 1, 0, 0, .int 1), (792, .iadd, 1, 0, 0, .null), (793, .iaload, 1, 0, 0, .null), (794, .invokevirtual 96, 3, 0, 0, .null), (797, .if_icmp .eq 409, 3, 0, 1206, .null), (800, .iconst 0, 1, 0, 0, .int 0), (801, .ireturn, 1, 0, 0, .null), (802, .aload_n 1, 1, 1, 0, .null), (803, .aload_n 0, 1, 0, 0, .null), (804, .iload_n 3, 1, 3, 0, .null), (805, .iconst 1, 1, 0, 0, .int 1), (806, .iadd, 1, 0, 0, .null), (807, .iaload, 1, 0, 0, .null), (808, .invokevirtual 97, 3, 0, 0, .null), (811, .aload_n 2, 1, 2, 0, .null), (812, .aload_n 0, 1, 0, 0, .null), (813, .iload_n 3, 1, 3, 0, .null), (814, .iconst 1, 1, 0, 0, .int 1), (815, .iadd, 1, 0, 0, .null), (816, .iaload, 1, 0, 0, .null), (817, .invokevirtual 100, 3, 0, 0, .null), (820, .if_icmp .eq 386, 3, 0, 1206, .null), (823, .iconst 0, 1, 0, 0, .int 0), (824, .ireturn, 1, 0, 0, .null), (825, .aload_n 1, 1, 1, 0, .null)]
theorem ok_La_law_10 : cd_La_law_10.all (mm_k M_La_law) = true := by decide +kernel
def cd_La_law_11 : List mm_E := [(826, .aload_n 0, 1, 0, 0, .null), (827, .iload_n 3, 1, 3, 0, .null), (828, .iconst 1, 1, 0, 0, .int 1), (829, .iadd, 1, 0, 0, .null), (830, .iaload, 1, 0, 0, .null), (831, .aload_n 0, 1, 0, 0, .null), (832, .iload_n 3, 1, 3, 0, .null), (833, .iconst 2, 1, 0, 0, .int 2), (834, .iadd, 1, 0, 0, .null), (835, .iaload, 1, 0, 0, .null), (836, .invokevirtual 101, 3, 0, 0, .null), (839, .aload_n 2, 1, 2, 0, .null), (840, .aload_n 0, 1, 0, 0, .null), (841, .iload_n 3, 1, 3, 0, .null), (842, .iconst 1, 1, 0, 0, .int 1), (843, .iadd, 1, 0, 0, .null), (844, .iaload, 1, 0, 0, .null), (845, .aload_n 0, 1, 0, 0, .null), (846, .iload_n 3, 1, 3, 0, .null), (847, .iconst 2, 1, 0, 0, .int 2), (848, .iadd, 1, 0, 0, .null), (849, .iaload, 1, 0, 0, .null), (850, .invokevirtual 104, 3, 0, 0, .null), (853, .if_icmp .eq 353, 3, 0, 1206, .null), (856, .iconst 0, 1, 0, 0, .int 0), (857, .ireturn, 1, 0, 0, .null), (858, .aload_n 1, 1, 1, 0, .null), (859, .aload_n 0, 1, 0, 0, .null), (860, .iload_n 3, 1, 3, 0, .null), (861, .iconst 1, 1, 0, 0, .int 1), (862, .iadd, 1, 0, 0, .null), (863, .iaload, 1, 0, 0, .null), (864, .aload_n 0, 1, 0, 0, .null), (865, .iload_n 3, 1, 3, 0, .null), (866, .iconst 2, 1, 0, 0, .int 2), (867, .iadd, 1, 0, 0, .null), (868, .iaload, 1, 0, 0, .null), (869, .aload_n 0, 1, 0, 0, .null), (870, .iload_n 3, 1, 3, 0, .null), (871, .iconst 3, 1, 0, 0, .int 3), (872, .iadd, 1, 0, 0, .null), (873, .iaload, 1, 0, 0, .null), (874, .aload_n 0, 1, 0, 0, .null), (875, .iload_n 3, 1, 3, 0, .null), (876, .iconst 4, 1, 0, 0, .int 4), (877, .iadd, 1, 0, 0, .null), (878, .iaload, 1, 0, 0, .null), (879, .aload_n 0, 1, 0, 0, .null), (880, .iload_n 3, 1, 3, 0, .null), (881, .iconst 5, 1, 0, 0, .int 5)]
theorem ok_La_law_11 : cd_La_law_11.all (mm_k M_La_law) = true := by decide +kernel
end
section
/-! ===== code, written by program out of the listing ===== -/
def cd_La_law_12 : List mm_E := [(882, .iadd, 1, 0, 0, .null), (883, .iaload, 1, 0, 0, .null), (884, .invokevirtual 105, 3, 0, 0, .null), (887, .aload_n 2, 1, 2, 0, .null), (888, .aload_n 0, 1, 0, 0, .null), (889, .iload_n 3, 1, 3, 0, .null), (890, .iconst 1, 1, 0, 0, .int 1), (891, .iadd, 1, 0, 0, .null), (892, .iaload, 1, 0, 0, .null), (893, .aload_n 0, 1, 0, 0, .null), (894, .iload_n 3, 1, 3, 0, .null), (895, .iconst 2, 1, 0, 0, .int 2), (896, .iadd, 1, 0, 0, .null), (897, .iaload, 1, 0, 0, .null), (898, .aload_n 0, 1, 0, 0, .null), (899, .iload_n 3, 1, 3, 0, .null), (900, .iconst 3, 1, 0, 0, .int 3), (901, .iadd, 1, 0, 0, .null), (902, .iaload, 1, 0, 0, .null), (903, .aload_n 0, 1, 0, 0, .null), (904, .iload_n 3, 1, 3, 0, .null), (905, .iconst 4, 1, 0, 0, .int 4), (906, .iadd, 1, 0, 0, .null), (907, .iaload, 1, 0, 0, .null), (908, .aload_n 0, 1, 0, 0, .null), (909, .iload_n 3, 1, 3, 0, .null), (910, .iconst 5, 1, 0, 0, .int 5), (911, .iadd, 1, 0, 0, .null), (912, .iaload, 1, 0, 0, .null), (913, .invokevirtual 109, 3, 0, 0, .null), (916, .lcmp, 1, 0, 0, .null), (917, .ifCond .eq 289, 3, 0, 1206, .null), (920, .iconst 0, 1, 0, 0, .int 0), (921, .ireturn, 1, 0, 0, .null), (922, .aload_n 1, 1, 1, 0, .null), (923, .invokevirtual 110, 3, 0, 0, .null), (926, .aload_n 2, 1, 2, 0, .null), (927, .invokevirtual 113, 3, 0, 0, .null), (930, .if_icmp .eq 276, 3, 0, 1206, .null), (933, .iconst 0, 1, 0, 0, .int 0), (934, .ireturn, 1, 0, 0, .null), (935, .aload_n 1, 1, 1, 0, .null), (936, .invokevirtual 114, 3, 0, 0, .null), (939, .aload_n 2, 1, 2, 0, .null), (940, .invokevirtual 117, 3, 0, 0, .null), (943, .if_icmp .eq 263, 3, 0, 1206, .null), (946, .iconst 0, 1, 0, 0, .int 0), (947, .ireturn, 1, 0, 0, .null), (948, .aload_n 1, 1, 1, 0, .null), (949, .aload_n 0, 1, 0, 0, .null)]
theorem ok_La_law_12 : cd_La_law_12.all (mm_k M_La_law) = true := by decide +kernel
def cd_La_law_13 : List mm_E := [(950, .iload_n 3, 1, 3, 0, .null), (951, .iconst 1, 1, 0, 0, .int 1), (952, .iadd, 1, 0, 0, .null), (953, .iaload, 1, 0, 0, .null), (954, .invokevirtual 118, 3, 0, 0, .null), (957, .aload_n 2, 1, 2, 0, .null), (958, .aload_n 0, 1, 0, 0, .null), (959, .iload_n 3, 1, 3, 0, .null), (960, .iconst 1, 1, 0, 0, .int 1), (961, .iadd, 1, 0, 0, .null), (962, .iaload, 1, 0, 0, .null), (963, .invokevirtual 121, 3, 0, 0, .null), (966, .if_icmp .eq 240, 3, 0, 1206, .null), (969, .iconst 0, 1, 0, 0, .int 0), (970, .ireturn, 1, 0, 0, .null), (971, .aload_n 1, 1, 1, 0, .null), (972, .aload_n 0, 1, 0, 0, .null), (973, .iload_n 3, 1, 3, 0, .null), (974, .iconst 1, 1, 0, 0, .int 1), (975, .iadd, 1, 0, 0, .null), (976, .iaload, 1, 0, 0, .null), (977, .aload_n 0, 1, 0, 0, .null), (978, .iload_n 3, 1, 3, 0, .null), (979, .iconst 2, 1, 0, 0, .int 2), (980, .iadd, 1, 0, 0, .null), (981, .iaload, 1, 0, 0, .null), (982, .aload_n 0, 1, 0, 0, .null), (983, .iload_n 3, 1, 3, 0, .null), (984, .iconst 3, 1, 0, 0, .int 3), (985, .iadd, 1, 0, 0, .null), (986, .iaload, 1, 0, 0, .null), (987, .invokevirtual 122, 3, 0, 0, .null), (990, .aload_n 2, 1, 2, 0, .null), (991, .aload_n 0, 1, 0, 0, .null), (992, .iload_n 3, 1, 3, 0, .null), (993, .iconst 1, 1, 0, 0, .int 1), (994, .iadd, 1, 0, 0, .null), (995, .iaload, 1, 0, 0, .null), (996, .aload_n 0, 1, 0, 0, .null), (997, .iload_n 3, 1, 3, 0, .null), (998, .iconst 2, 1, 0, 0, .int 2), (999, .iadd, 1, 0, 0, .null), (1000, .iaload, 1, 0, 0, .null), (1001, .aload_n 0, 1, 0, 0, .null), (1002, .iload_n 3, 1, 3, 0, .null), (1003, .iconst 3, 1, 0, 0, .int 3), (1004, .iadd, 1, 0, 0, .null), (1005, .iaload, 1, 0, 0, .null), (1006, .invokevirtual 125, 3, 0, 0, .null), (1009, .if_icmp .eq 197, 3, 0, 1206, .null)]
theorem ok_La_law_13 : cd_La_law_13.all (mm_k M_La_law) = true := by decide +kernel
def cd_La_law_14 : List mm_E := [(1012, .iconst 0, 1, 0, 0, .int 0), (1013, .ireturn, 1, 0, 0, .null), (1014, .aload_n 1, 1, 1, 0, .null), (1015, .aload_n 0, 1, 0, 0, .null), (1016, .iload_n 3, 1, 3, 0, .null), (1017, .iconst 1, 1, 0, 0, .int 1), (1018, .iadd, 1, 0, 0, .null), (1019, .iaload, 1, 0, 0, .null), (1020, .aload_n 0, 1, 0, 0, .null), (1021, .iload_n 3, 1, 3, 0, .null), (1022, .iconst 2, 1, 0, 0, .int 2), (1023, .iadd, 1, 0, 0, .null), (1024, .iaload, 1, 0, 0, .null), (1025, .aload_n 0, 1, 0, 0, .null), (1026, .iload_n 3, 1, 3, 0, .null), (1027, .iconst 3, 1, 0, 0, .int 3), (1028, .iadd, 1, 0, 0, .null), (1029, .iaload, 1, 0, 0, .null), (1030, .invokevirtual 126, 3, 0, 0, .null), (1033, .aload_n 2, 1, 2, 0, .null), (1034, .aload_n 0, 1, 0, 0, .null), (1035, .iload_n 3, 1, 3, 0, .null), (1036, .iconst 1, 1, 0, 0, .int 1), (1037, .iadd, 1, 0, 0, .null), (1038, .iaload, 1, 0, 0, .null), (1039, .aload_n 0, 1, 0, 0, .null), (1040, .iload_n 3, 1, 3, 0, .null), (1041, .iconst 2, 1, 0, 0, .int 2), (1042, .iadd, 1, 0, 0, .null), (1043, .iaload, 1, 0, 0, .null), (1044, .aload_n 0, 1, 0, 0, .null), (1045, .iload_n 3, 1, 3, 0, .null), (1046, .iconst 3, 1, 0, 0, .int 3), (1047, .iadd, 1, 0, 0, .null), (1048, .iaload, 1, 0, 0, .null), (1049, .invokevirtual 129, 3, 0, 0, .null), (1052, .if_icmp .eq 154, 3, 0, 1206, .null), (1055, .iconst 0, 1, 0, 0, .int 0), (1056, .ireturn, 1, 0, 0, .null), (1057, .aload_n 1, 1, 1, 0, .null), (1058, .aload_n 0, 1, 0, 0, .null), (1059, .iload_n 3, 1, 3, 0, .null), (1060, .iconst 1, 1, 0, 0, .int 1), (1061, .iadd, 1, 0, 0, .null), (1062, .iaload, 1, 0, 0, .null), (1063, .aload_n 0, 1, 0, 0, .null), (1064, .iload_n 3, 1, 3, 0, .null), (1065, .iconst 2, 1, 0, 0, .int 2), (1066, .iadd, 1, 0, 0, .null), (1067, .iaload, 1, 0, 0, .null)]
theorem ok_La_law_14 : cd_La_law_14.all (mm_k M_La_law) = true := by decide +kernel
def cd_La_law_15 : List mm_E := [(1068, .aload_n 0, 1, 0, 0, .null), (1069, .iload_n 3, 1, 3, 0, .null), (1070, .iconst 3, 1, 0, 0, .int 3), (1071, .iadd, 1, 0, 0, .null), (1072, .iaload, 1, 0, 0, .null), (1073, .aload_n 0, 1, 0, 0, .null), (1074, .iload_n 3, 1, 3, 0, .null), (1075, .iconst 4, 1, 0, 0, .int 4), (1076, .iadd, 1, 0, 0, .null), (1077, .iaload, 1, 0, 0, .null), (1078, .aload_n 0, 1, 0, 0, .null), (1079, .iload_n 3, 1, 3, 0, .null), (1080, .iconst 5, 1, 0, 0, .int 5), (1081, .iadd, 1, 0, 0, .null), (1082, .iaload, 1, 0, 0, .null), (1083, .invokevirtual 130, 3, 0, 0, .null), (1086, .aload_n 2, 1, 2, 0, .null), (1087, .aload_n 0, 1, 0, 0, .null), (1088, .iload_n 3, 1, 3, 0, .null), (1089, .iconst 1, 1, 0, 0, .int 1), (1090, .iadd, 1, 0, 0, .null), (1091, .iaload, 1, 0, 0, .null), (1092, .aload_n 0, 1, 0, 0, .null), (1093, .iload_n 3, 1, 3, 0, .null), (1094, .iconst 2, 1, 0, 0, .int 2), (1095, .iadd, 1, 0, 0, .null), (1096, .iaload, 1, 0, 0, .null), (1097, .aload_n 0, 1, 0, 0, .null), (1098, .iload_n 3, 1, 3, 0, .null), (1099, .iconst 3, 1, 0, 0, .int 3), (1100, .iadd, 1, 0, 0, .null), (1101, .iaload, 1, 0, 0, .null), (1102, .aload_n 0, 1, 0, 0, .null), (1103, .iload_n 3, 1, 3, 0, .null), (1104, .iconst 4, 1, 0, 0, .int 4), (1105, .iadd, 1, 0, 0, .null), (1106, .iaload, 1, 0, 0, .null), (1107, .aload_n 0, 1, 0, 0, .null), (1108, .iload_n 3, 1, 3, 0, .null), (1109, .iconst 5, 1, 0, 0, .int 5), (1110, .iadd, 1, 0, 0, .null), (1111, .iaload, 1, 0, 0, .null), (1112, .invokevirtual 134, 3, 0, 0, .null), (1115, .if_icmp .eq 91, 3, 0, 1206, .null), (1118, .iconst 0, 1, 0, 0, .int 0), (1119, .ireturn, 1, 0, 0, .null), (1120, .aload_n 1, 1, 1, 0, .null), (1121, .aload_n 0, 1, 0, 0, .null), (1122, .iload_n 3, 1, 3, 0, .null), (1123, .iconst 1, 1, 0, 0, .int 1)]
theorem ok_La_law_15 : cd_La_law_15.all (mm_k M_La_law) = true := by decide +kernel
def cd_La_law_16 : List mm_E := [(1124, .iadd, 1, 0, 0, .null), (1125, .iaload, 1, 0, 0, .null), (1126, .aload_n 0, 1, 0, 0, .null), (1127, .iload_n 3, 1, 3, 0, .null), (1128, .iconst 2, 1, 0, 0, .int 2), (1129, .iadd, 1, 0, 0, .null), (1130, .iaload, 1, 0, 0, .null), (1131, .aload_n 0, 1, 0, 0, .null), (1132, .iload_n 3, 1, 3, 0, .null), (1133, .iconst 3, 1, 0, 0, .int 3), (1134, .iadd, 1, 0, 0, .null), (1135, .iaload, 1, 0, 0, .null), (1136, .aload_n 0, 1, 0, 0, .null), (1137, .iload_n 3, 1, 3, 0, .null), (1138, .iconst 4, 1, 0, 0, .int 4), (1139, .iadd, 1, 0, 0, .null), (1140, .iaload, 1, 0, 0, .null), (1141, .invokevirtual 135, 3, 0, 0, .null), (1144, .aload_n 2, 1, 2, 0, .null), (1145, .aload_n 0, 1, 0, 0, .null), (1146, .iload_n 3, 1, 3, 0, .null), (1147, .iconst 1, 1, 0, 0, .int 1), (1148, .iadd, 1, 0, 0, .null), (1149, .iaload, 1, 0, 0, .null), (1150, .aload_n 0, 1, 0, 0, .null), (1151, .iload_n 3, 1, 3, 0, .null), (1152, .iconst 2, 1, 0, 0, .int 2), (1153, .iadd, 1, 0, 0, .null), (1154, .iaload, 1, 0, 0, .null), (1155, .aload_n 0, 1, 0, 0, .null), (1156, .iload_n 3, 1, 3, 0, .null), (1157, .iconst 3, 1, 0, 0, .int 3), (1158, .iadd, 1, 0, 0, .null), (1159, .iaload, 1, 0, 0, .null), (1160, .aload_n 0, 1, 0, 0, .null), (1161, .iload_n 3, 1, 3, 0, .null), (1162, .iconst 4, 1, 0, 0, .int 4), (1163, .iadd, 1, 0, 0, .null), (1164, .iaload, 1, 0, 0, .null), (1165, .invokevirtual 139, 3, 0, 0, .null), (1168, .if_icmp .eq 38, 3, 0, 1206, .null), (1171, .iconst 0, 1, 0, 0, .int 0), (1172, .ireturn, 1, 0, 0, .null), (1173, .aload_n 1, 1, 1, 0, .null), (1174, .aload_n 0, 1, 0, 0, .null), (1175, .iload_n 3, 1, 3, 0, .null), (1176, .iconst 1, 1, 0, 0, .int 1), (1177, .iadd, 1, 0, 0, .null), (1178, .iaload, 1, 0, 0, .null), (1179, .aload_n 0, 1, 0, 0, .null)]
theorem ok_La_law_16 : cd_La_law_16.all (mm_k M_La_law) = true := by decide +kernel
def cd_La_law_17 : List mm_E := [(1180, .iload_n 3, 1, 3, 0, .null), (1181, .iconst 2, 1, 0, 0, .int 2), (1182, .iadd, 1, 0, 0, .null), (1183, .iaload, 1, 0, 0, .null), (1184, .invokevirtual 140, 3, 0, 0, .null), (1187, .aload_n 2, 1, 2, 0, .null), (1188, .aload_n 0, 1, 0, 0, .null), (1189, .iload_n 3, 1, 3, 0, .null), (1190, .iconst 1, 1, 0, 0, .int 1), (1191, .iadd, 1, 0, 0, .null), (1192, .iaload, 1, 0, 0, .null), (1193, .aload_n 0, 1, 0, 0, .null), (1194, .iload_n 3, 1, 3, 0, .null), (1195, .iconst 2, 1, 0, 0, .int 2), (1196, .iadd, 1, 0, 0, .null), (1197, .iaload, 1, 0, 0, .null), (1198, .invokevirtual 143, 3, 0, 0, .null), (1201, .if_icmp .eq 5, 3, 0, 1206, .null), (1204, .iconst 0, 1, 0, 0, .int 0), (1205, .ireturn, 1, 0, 0, .null), (1206, .iinc 3 6, 3, 3, 0, .int 6), (1209, .goto (-1191), 3, 0, 18, .null), (1212, .iconst 1, 1, 0, 0, .int 1), (1213, .ireturn, 1, 0, 0, .null)]
theorem ok_La_law_17 : cd_La_law_17.all (mm_k M_La_law) = true := by decide +kernel
end
section
/-! ===== words of calls, by their places (written by program) ===== -/
theorem cw_Sc_init : mm_cw M_Sc_init 0 := ⟨mm_wat 101 (by decide +kernel) rfl, mm_wat 76 (by decide +kernel) rfl, ⟨by decide +kernel, by decide +kernel, by decide +kernel⟩, by decide⟩
theorem in_Sc_init : Cond.instanceMethod M_Sc_init.1 ∈ mm_G := mm_wat 100 (by decide +kernel) rfl
theorem cw_Sp_init : mm_cw M_Sp_init 0 := ⟨mm_wat 109 (by decide +kernel) rfl, mm_wat 77 (by decide +kernel) rfl, ⟨by decide +kernel, by decide +kernel, by decide +kernel⟩, by decide⟩
theorem in_Sp_init : Cond.instanceMethod M_Sp_init.1 ∈ mm_G := mm_wat 108 (by decide +kernel) rfl
theorem cw_Bo_init : mm_cw M_Bo_init 0 := ⟨mm_wat 115 (by decide +kernel) rfl, mm_wat 78 (by decide +kernel) rfl, ⟨by decide +kernel, by decide +kernel, by decide +kernel⟩, by decide⟩
theorem in_Bo_init : Cond.instanceMethod M_Bo_init.1 ∈ mm_G := mm_wat 114 (by decide +kernel) rfl
theorem cw_Ar_fill : mm_cw M_Ar_fill 2 := ⟨mm_wat 119 (by decide +kernel) rfl, mm_wat 79 (by decide +kernel) rfl, ⟨by decide +kernel, by decide +kernel, by decide +kernel⟩, by decide⟩
theorem sx_Ar_fill : Cond.static M_Ar_fill.1 ∈ mm_G := mm_wat 118 (by decide +kernel) rfl
theorem cw_Te_init : mm_cw M_Te_init 3 := ⟨mm_wat 186 (by decide +kernel) rfl, mm_wat 80 (by decide +kernel) rfl, ⟨by decide +kernel, by decide +kernel, by decide +kernel⟩, by decide⟩
theorem in_Te_init : Cond.instanceMethod M_Te_init.1 ∈ mm_G := mm_wat 185 (by decide +kernel) rfl
theorem cw_Kd_init : mm_cw M_Kd_init 0 := ⟨mm_wat 204 (by decide +kernel) rfl, mm_wat 81 (by decide +kernel) rfl, ⟨by decide +kernel, by decide +kernel, by decide +kernel⟩, by decide⟩
theorem in_Kd_init : Cond.instanceMethod M_Kd_init.1 ∈ mm_G := mm_wat 203 (by decide +kernel) rfl
theorem cw_Lo_init : mm_cw M_Lo_init 0 := ⟨mm_wat 211 (by decide +kernel) rfl, mm_wat 82 (by decide +kernel) rfl, ⟨by decide +kernel, by decide +kernel, by decide +kernel⟩, by decide⟩
theorem in_Lo_init : Cond.instanceMethod M_Lo_init.1 ∈ mm_G := mm_wat 210 (by decide +kernel) rfl
theorem cw_Li_init : mm_cw M_Li_init 0 := ⟨mm_wat 218 (by decide +kernel) rfl, mm_wat 83 (by decide +kernel) rfl, ⟨by decide +kernel, by decide +kernel, by decide +kernel⟩, by decide⟩
theorem in_Li_init : Cond.instanceMethod M_Li_init.1 ∈ mm_G := mm_wat 217 (by decide +kernel) rfl
theorem cw_Hk_init : mm_cw M_Hk_init 0 := ⟨mm_wat 225 (by decide +kernel) rfl, mm_wat 84 (by decide +kernel) rfl, ⟨by decide +kernel, by decide +kernel, by decide +kernel⟩, by decide⟩
theorem in_Hk_init : Cond.instanceMethod M_Hk_init.1 ∈ mm_G := mm_wat 224 (by decide +kernel) rfl
theorem cw_So_init : mm_cw M_So_init 0 := ⟨mm_wat 232 (by decide +kernel) rfl, mm_wat 85 (by decide +kernel) rfl, ⟨by decide +kernel, by decide +kernel, by decide +kernel⟩, by decide⟩
theorem in_So_init : Cond.instanceMethod M_So_init.1 ∈ mm_G := mm_wat 231 (by decide +kernel) rfl
theorem cw_Pk_init : mm_cw M_Pk_init 0 := ⟨mm_wat 239 (by decide +kernel) rfl, mm_wat 86 (by decide +kernel) rfl, ⟨by decide +kernel, by decide +kernel, by decide +kernel⟩, by decide⟩
theorem in_Pk_init : Cond.instanceMethod M_Pk_init.1 ∈ mm_G := mm_wat 238 (by decide +kernel) rfl
theorem cw_Se_init : mm_cw M_Se_init 0 := ⟨mm_wat 272 (by decide +kernel) rfl, mm_wat 87 (by decide +kernel) rfl, ⟨by decide +kernel, by decide +kernel, by decide +kernel⟩, by decide⟩
theorem in_Se_init : Cond.instanceMethod M_Se_init.1 ∈ mm_G := mm_wat 271 (by decide +kernel) rfl
theorem cw_Re_init : mm_cw M_Re_init 0 := ⟨mm_wat 302 (by decide +kernel) rfl, mm_wat 88 (by decide +kernel) rfl, ⟨by decide +kernel, by decide +kernel, by decide +kernel⟩, by decide⟩
theorem in_Re_init : Cond.instanceMethod M_Re_init.1 ∈ mm_G := mm_wat 301 (by decide +kernel) rfl
theorem cw_Sc_lesson : mm_cw M_Sc_lesson 3 := ⟨mm_wat 368 (by decide +kernel) rfl, mm_wat 76 (by decide +kernel) rfl, ⟨by decide +kernel, by decide +kernel, by decide +kernel⟩, by decide⟩
theorem in_Sc_lesson : Cond.instanceMethod M_Sc_lesson.1 ∈ mm_G := mm_wat 366 (by decide +kernel) rfl
theorem sl_Sc_lesson : Cond.selects "SchoolOnRaft" M_Sc_lesson.1 M_Sc_lesson.1 ∈ mm_G := mm_wat 367 (by decide +kernel) rfl
theorem cw_Sc_isKind : mm_cw M_Sc_isKind 1 := ⟨mm_wat 371 (by decide +kernel) rfl, mm_wat 76 (by decide +kernel) rfl, ⟨by decide +kernel, by decide +kernel, by decide +kernel⟩, by decide⟩
theorem sx_Sc_isKind : Cond.static M_Sc_isKind.1 ∈ mm_G := mm_wat 370 (by decide +kernel) rfl
theorem cw_Sc_isNumber : mm_cw M_Sc_isNumber 1 := ⟨mm_wat 374 (by decide +kernel) rfl, mm_wat 76 (by decide +kernel) rfl, ⟨by decide +kernel, by decide +kernel, by decide +kernel⟩, by decide⟩
theorem sx_Sc_isNumber : Cond.static M_Sc_isNumber.1 ∈ mm_G := mm_wat 373 (by decide +kernel) rfl
theorem cw_Sc_areLessons : mm_cw M_Sc_areLessons 2 := ⟨mm_wat 377 (by decide +kernel) rfl, mm_wat 76 (by decide +kernel) rfl, ⟨by decide +kernel, by decide +kernel, by decide +kernel⟩, by decide⟩
theorem sx_Sc_areLessons : Cond.static M_Sc_areLessons.1 ∈ mm_G := mm_wat 376 (by decide +kernel) rfl
theorem cw_Se_forget : mm_cw M_Se_forget 0 := ⟨mm_wat 381 (by decide +kernel) rfl, mm_wat 87 (by decide +kernel) rfl, ⟨by decide +kernel, by decide +kernel, by decide +kernel⟩, by decide⟩
theorem in_Se_forget : Cond.instanceMethod M_Se_forget.1 ∈ mm_G := mm_wat 379 (by decide +kernel) rfl
theorem sl_Se_forget : Cond.selects "SchoolOnRaft$Search" M_Se_forget.1 M_Se_forget.1 ∈ mm_G := mm_wat 380 (by decide +kernel) rfl
theorem cw_Bo_addLesson : mm_cw M_Bo_addLesson 3 := ⟨mm_wat 385 (by decide +kernel) rfl, mm_wat 78 (by decide +kernel) rfl, ⟨by decide +kernel, by decide +kernel, by decide +kernel⟩, by decide⟩
theorem in_Bo_addLesson : Cond.instanceMethod M_Bo_addLesson.1 ∈ mm_G := mm_wat 383 (by decide +kernel) rfl
theorem sl_Bo_addLesson : Cond.selects "SchoolOnRaft$Board" M_Bo_addLesson.1 M_Bo_addLesson.1 ∈ mm_G := mm_wat 384 (by decide +kernel) rfl
theorem cw_Sc_child : mm_cw M_Sc_child 2 := ⟨mm_wat 389 (by decide +kernel) rfl, mm_wat 76 (by decide +kernel) rfl, ⟨by decide +kernel, by decide +kernel, by decide +kernel⟩, by decide⟩
theorem in_Sc_child : Cond.instanceMethod M_Sc_child.1 ∈ mm_G := mm_wat 387 (by decide +kernel) rfl
theorem sl_Sc_child : Cond.selects "SchoolOnRaft" M_Sc_child.1 M_Sc_child.1 ∈ mm_G := mm_wat 388 (by decide +kernel) rfl
theorem cw_Sc_bring : mm_cw M_Sc_bring 2 := ⟨mm_wat 393 (by decide +kernel) rfl, mm_wat 76 (by decide +kernel) rfl, ⟨by decide +kernel, by decide +kernel, by decide +kernel⟩, by decide⟩
theorem in_Sc_bring : Cond.instanceMethod M_Sc_bring.1 ∈ mm_G := mm_wat 392 (by decide +kernel) rfl
theorem sl_Sc_bring : Cond.selects "SchoolOnRaft" M_Sc_bring.1 M_Sc_bring.1 ∈ mm_G := mm_wat 0 (by decide +kernel) rfl
theorem cw_Sc_isBend : mm_cw M_Sc_isBend 1 := ⟨mm_wat 396 (by decide +kernel) rfl, mm_wat 76 (by decide +kernel) rfl, ⟨by decide +kernel, by decide +kernel, by decide +kernel⟩, by decide⟩
theorem sx_Sc_isBend : Cond.static M_Sc_isBend.1 ∈ mm_G := mm_wat 395 (by decide +kernel) rfl
theorem cw_Sc_isAge : mm_cw M_Sc_isAge 1 := ⟨mm_wat 399 (by decide +kernel) rfl, mm_wat 76 (by decide +kernel) rfl, ⟨by decide +kernel, by decide +kernel, by decide +kernel⟩, by decide⟩
theorem sx_Sc_isAge : Cond.static M_Sc_isAge.1 ∈ mm_G := mm_wat 398 (by decide +kernel) rfl
theorem cw_Bo_addChild : mm_cw M_Bo_addChild 3 := ⟨mm_wat 403 (by decide +kernel) rfl, mm_wat 78 (by decide +kernel) rfl, ⟨by decide +kernel, by decide +kernel, by decide +kernel⟩, by decide⟩
theorem in_Bo_addChild : Cond.instanceMethod M_Bo_addChild.1 ∈ mm_G := mm_wat 401 (by decide +kernel) rfl
theorem sl_Bo_addChild : Cond.selects "SchoolOnRaft$Board" M_Bo_addChild.1 M_Bo_addChild.1 ∈ mm_G := mm_wat 402 (by decide +kernel) rfl
theorem cw_Sc_set : mm_cw M_Sc_set 3 := ⟨mm_wat 407 (by decide +kernel) rfl, mm_wat 76 (by decide +kernel) rfl, ⟨by decide +kernel, by decide +kernel, by decide +kernel⟩, by decide⟩
theorem in_Sc_set : Cond.instanceMethod M_Sc_set.1 ∈ mm_G := mm_wat 405 (by decide +kernel) rfl
theorem sl_Sc_set : Cond.selects "SchoolOnRaft" M_Sc_set.1 M_Sc_set.1 ∈ mm_G := mm_wat 406 (by decide +kernel) rfl
theorem cw_Sc_maySet : mm_cw M_Sc_maySet 3 := ⟨mm_wat 411 (by decide +kernel) rfl, mm_wat 76 (by decide +kernel) rfl, ⟨by decide +kernel, by decide +kernel, by decide +kernel⟩, by decide⟩
theorem in_Sc_maySet : Cond.instanceMethod M_Sc_maySet.1 ∈ mm_G := mm_wat 410 (by decide +kernel) rfl
theorem sl_Sc_maySet : Cond.selects "SchoolOnRaft" M_Sc_maySet.1 M_Sc_maySet.1 ∈ mm_G := mm_wat 1 (by decide +kernel) rfl
theorem cw_Sc_isLesson : mm_cw M_Sc_isLesson 1 := ⟨mm_wat 415 (by decide +kernel) rfl, mm_wat 76 (by decide +kernel) rfl, ⟨by decide +kernel, by decide +kernel, by decide +kernel⟩, by decide⟩
theorem in_Sc_isLesson : Cond.instanceMethod M_Sc_isLesson.1 ∈ mm_G := mm_wat 414 (by decide +kernel) rfl
theorem sl_Sc_isLesson : Cond.selects "SchoolOnRaft" M_Sc_isLesson.1 M_Sc_isLesson.1 ∈ mm_G := mm_wat 2 (by decide +kernel) rfl
theorem cw_Sc_isChild : mm_cw M_Sc_isChild 1 := ⟨mm_wat 419 (by decide +kernel) rfl, mm_wat 76 (by decide +kernel) rfl, ⟨by decide +kernel, by decide +kernel, by decide +kernel⟩, by decide⟩
theorem in_Sc_isChild : Cond.instanceMethod M_Sc_isChild.1 ∈ mm_G := mm_wat 418 (by decide +kernel) rfl
theorem sl_Sc_isChild : Cond.selects "SchoolOnRaft" M_Sc_isChild.1 M_Sc_isChild.1 ∈ mm_G := mm_wat 3 (by decide +kernel) rfl
theorem cw_Sc_settable : mm_cw M_Sc_settable 1 := ⟨mm_wat 423 (by decide +kernel) rfl, mm_wat 76 (by decide +kernel) rfl, ⟨by decide +kernel, by decide +kernel, by decide +kernel⟩, by decide⟩
theorem in_Sc_settable : Cond.instanceMethod M_Sc_settable.1 ∈ mm_G := mm_wat 422 (by decide +kernel) rfl
theorem sl_Sc_settable : Cond.selects "SchoolOnRaft" M_Sc_settable.1 M_Sc_settable.1 ∈ mm_G := mm_wat 4 (by decide +kernel) rfl
theorem cw_Sc_told : mm_cw M_Sc_told 2 := ⟨mm_wat 427 (by decide +kernel) rfl, mm_wat 76 (by decide +kernel) rfl, ⟨by decide +kernel, by decide +kernel, by decide +kernel⟩, by decide⟩
theorem in_Sc_told : Cond.instanceMethod M_Sc_told.1 ∈ mm_G := mm_wat 425 (by decide +kernel) rfl
theorem sl_Sc_told : Cond.selects "SchoolOnRaft" M_Sc_told.1 M_Sc_told.1 ∈ mm_G := mm_wat 426 (by decide +kernel) rfl
theorem cw_Sp_kindOf : mm_cw M_Sp_kindOf 1 := ⟨mm_wat 431 (by decide +kernel) rfl, mm_wat 77 (by decide +kernel) rfl, ⟨by decide +kernel, by decide +kernel, by decide +kernel⟩, by decide⟩
theorem in_Sp_kindOf : Cond.instanceMethod M_Sp_kindOf.1 ∈ mm_G := mm_wat 429 (by decide +kernel) rfl
theorem sl_Sp_kindOf : Cond.selects "SchoolOnRaft$Spring" M_Sp_kindOf.1 M_Sp_kindOf.1 ∈ mm_G := mm_wat 430 (by decide +kernel) rfl
theorem cw_Hk_times : mm_cw M_Hk_times 1 := ⟨mm_wat 438 (by decide +kernel) rfl, mm_wat 84 (by decide +kernel) rfl, ⟨by decide +kernel, by decide +kernel, by decide +kernel⟩, by decide⟩
theorem in_Hk_times : Cond.instanceMethod M_Hk_times.1 ∈ mm_G := mm_wat 437 (by decide +kernel) rfl
theorem cw_Lo_times : mm_cw M_Lo_times 1 := ⟨mm_wat 441 (by decide +kernel) rfl, mm_wat 82 (by decide +kernel) rfl, ⟨by decide +kernel, by decide +kernel, by decide +kernel⟩, by decide⟩
theorem in_Lo_times : Cond.instanceMethod M_Lo_times.1 ∈ mm_G := mm_wat 440 (by decide +kernel) rfl
theorem cw_So_times : mm_cw M_So_times 1 := ⟨mm_wat 448 (by decide +kernel) rfl, mm_wat 85 (by decide +kernel) rfl, ⟨by decide +kernel, by decide +kernel, by decide +kernel⟩, by decide⟩
theorem in_So_times : Cond.instanceMethod M_So_times.1 ∈ mm_G := mm_wat 447 (by decide +kernel) rfl
theorem cw_Kd_times : mm_cw M_Kd_times 1 := ⟨mm_wat 452 (by decide +kernel) rfl, mm_wat 81 (by decide +kernel) rfl, ⟨by decide +kernel, by decide +kernel, by decide +kernel⟩, by decide⟩
theorem in_Kd_times : Cond.instanceMethod M_Kd_times.1 ∈ mm_G := mm_wat 433 (by decide +kernel) rfl
theorem sl_Kd_times : Cond.selects "SchoolOnRaft$Kind" M_Kd_times.1 M_Kd_times.1 ∈ mm_G := mm_wat 434 (by decide +kernel) rfl
theorem cw_Hk_value : mm_cw M_Hk_value 1 := ⟨mm_wat 459 (by decide +kernel) rfl, mm_wat 84 (by decide +kernel) rfl, ⟨by decide +kernel, by decide +kernel, by decide +kernel⟩, by decide⟩
theorem in_Hk_value : Cond.instanceMethod M_Hk_value.1 ∈ mm_G := mm_wat 458 (by decide +kernel) rfl
theorem cw_Lo_value : mm_cw M_Lo_value 1 := ⟨mm_wat 462 (by decide +kernel) rfl, mm_wat 82 (by decide +kernel) rfl, ⟨by decide +kernel, by decide +kernel, by decide +kernel⟩, by decide⟩
theorem in_Lo_value : Cond.instanceMethod M_Lo_value.1 ∈ mm_G := mm_wat 461 (by decide +kernel) rfl
theorem cw_Li_value : mm_cw M_Li_value 1 := ⟨mm_wat 466 (by decide +kernel) rfl, mm_wat 83 (by decide +kernel) rfl, ⟨by decide +kernel, by decide +kernel, by decide +kernel⟩, by decide⟩
theorem in_Li_value : Cond.instanceMethod M_Li_value.1 ∈ mm_G := mm_wat 465 (by decide +kernel) rfl
theorem cw_Pk_value : mm_cw M_Pk_value 1 := ⟨mm_wat 471 (by decide +kernel) rfl, mm_wat 86 (by decide +kernel) rfl, ⟨by decide +kernel, by decide +kernel, by decide +kernel⟩, by decide⟩
theorem in_Pk_value : Cond.instanceMethod M_Pk_value.1 ∈ mm_G := mm_wat 470 (by decide +kernel) rfl
theorem cw_So_value : mm_cw M_So_value 1 := ⟨mm_wat 475 (by decide +kernel) rfl, mm_wat 85 (by decide +kernel) rfl, ⟨by decide +kernel, by decide +kernel, by decide +kernel⟩, by decide⟩
theorem in_So_value : Cond.instanceMethod M_So_value.1 ∈ mm_G := mm_wat 474 (by decide +kernel) rfl
theorem cw_Kd_value : mm_cw M_Kd_value 1 := ⟨mm_wat 477 (by decide +kernel) rfl, mm_wat 81 (by decide +kernel) rfl, ⟨by decide +kernel, by decide +kernel, by decide +kernel⟩, by decide⟩
theorem in_Kd_value : Cond.instanceMethod M_Kd_value.1 ∈ mm_G := mm_wat 454 (by decide +kernel) rfl
theorem sl_Kd_value : Cond.selects "SchoolOnRaft$Kind" M_Kd_value.1 M_Kd_value.1 ∈ mm_G := mm_wat 455 (by decide +kernel) rfl
theorem cw_Sc_give : mm_cw M_Sc_give 3 := ⟨mm_wat 481 (by decide +kernel) rfl, mm_wat 76 (by decide +kernel) rfl, ⟨by decide +kernel, by decide +kernel, by decide +kernel⟩, by decide⟩
theorem in_Sc_give : Cond.instanceMethod M_Sc_give.1 ∈ mm_G := mm_wat 479 (by decide +kernel) rfl
theorem sl_Sc_give : Cond.selects "SchoolOnRaft" M_Sc_give.1 M_Sc_give.1 ∈ mm_G := mm_wat 480 (by decide +kernel) rfl
theorem cw_Sc_isRaft : mm_cw M_Sc_isRaft 1 := ⟨mm_wat 484 (by decide +kernel) rfl, mm_wat 76 (by decide +kernel) rfl, ⟨by decide +kernel, by decide +kernel, by decide +kernel⟩, by decide⟩
theorem sx_Sc_isRaft : Cond.static M_Sc_isRaft.1 ∈ mm_G := mm_wat 483 (by decide +kernel) rfl
theorem cw_Sc_planOf : mm_cw M_Sc_planOf 1 := ⟨mm_wat 488 (by decide +kernel) rfl, mm_wat 76 (by decide +kernel) rfl, ⟨by decide +kernel, by decide +kernel, by decide +kernel⟩, by decide⟩
theorem in_Sc_planOf : Cond.instanceMethod M_Sc_planOf.1 ∈ mm_G := mm_wat 487 (by decide +kernel) rfl
theorem sl_Sc_planOf : Cond.selects "SchoolOnRaft" M_Sc_planOf.1 M_Sc_planOf.1 ∈ mm_G := mm_wat 5 (by decide +kernel) rfl
theorem cw_Sc_given : mm_cw M_Sc_given 2 := ⟨mm_wat 492 (by decide +kernel) rfl, mm_wat 76 (by decide +kernel) rfl, ⟨by decide +kernel, by decide +kernel, by decide +kernel⟩, by decide⟩
theorem in_Sc_given : Cond.instanceMethod M_Sc_given.1 ∈ mm_G := mm_wat 490 (by decide +kernel) rfl
theorem sl_Sc_given : Cond.selects "SchoolOnRaft" M_Sc_given.1 M_Sc_given.1 ∈ mm_G := mm_wat 491 (by decide +kernel) rfl
theorem cw_Sc_feed : mm_cw M_Sc_feed 1 := ⟨mm_wat 496 (by decide +kernel) rfl, mm_wat 76 (by decide +kernel) rfl, ⟨by decide +kernel, by decide +kernel, by decide +kernel⟩, by decide⟩
theorem in_Sc_feed : Cond.instanceMethod M_Sc_feed.1 ∈ mm_G := mm_wat 494 (by decide +kernel) rfl
theorem sl_Sc_feed : Cond.selects "SchoolOnRaft" M_Sc_feed.1 M_Sc_feed.1 ∈ mm_G := mm_wat 495 (by decide +kernel) rfl
theorem cw_Sc_text : mm_cw M_Sc_text 0 := ⟨mm_wat 500 (by decide +kernel) rfl, mm_wat 76 (by decide +kernel) rfl, ⟨by decide +kernel, by decide +kernel, by decide +kernel⟩, by decide⟩
theorem in_Sc_text : Cond.instanceMethod M_Sc_text.1 ∈ mm_G := mm_wat 498 (by decide +kernel) rfl
theorem sl_Sc_text : Cond.selects "SchoolOnRaft" M_Sc_text.1 M_Sc_text.1 ∈ mm_G := mm_wat 499 (by decide +kernel) rfl
theorem cw_Re_read : mm_cw M_Re_read 0 := ⟨mm_wat 504 (by decide +kernel) rfl, mm_wat 88 (by decide +kernel) rfl, ⟨by decide +kernel, by decide +kernel, by decide +kernel⟩, by decide⟩
theorem in_Re_read : Cond.instanceMethod M_Re_read.1 ∈ mm_G := mm_wat 502 (by decide +kernel) rfl
theorem sl_Re_read : Cond.selects "SchoolOnRaft$Reader" M_Re_read.1 M_Re_read.1 ∈ mm_G := mm_wat 503 (by decide +kernel) rfl
theorem cw_Re_advance : mm_cw M_Re_advance 0 := ⟨mm_wat 508 (by decide +kernel) rfl, mm_wat 88 (by decide +kernel) rfl, ⟨by decide +kernel, by decide +kernel, by decide +kernel⟩, by decide⟩
theorem in_Re_advance : Cond.instanceMethod M_Re_advance.1 ∈ mm_G := mm_wat 507 (by decide +kernel) rfl
theorem sl_Re_advance : Cond.selects "SchoolOnRaft$Reader" M_Re_advance.1 M_Re_advance.1 ∈ mm_G := mm_wat 6 (by decide +kernel) rfl
theorem cw_Re_isDigit : mm_cw M_Re_isDigit 1 := ⟨mm_wat 511 (by decide +kernel) rfl, mm_wat 88 (by decide +kernel) rfl, ⟨by decide +kernel, by decide +kernel, by decide +kernel⟩, by decide⟩
theorem sx_Re_isDigit : Cond.static M_Re_isDigit.1 ∈ mm_G := mm_wat 510 (by decide +kernel) rfl
theorem cw_Re_number : mm_cw M_Re_number 0 := ⟨mm_wat 515 (by decide +kernel) rfl, mm_wat 88 (by decide +kernel) rfl, ⟨by decide +kernel, by decide +kernel, by decide +kernel⟩, by decide⟩
theorem in_Re_number : Cond.instanceMethod M_Re_number.1 ∈ mm_G := mm_wat 514 (by decide +kernel) rfl
theorem sl_Re_number : Cond.selects "SchoolOnRaft$Reader" M_Re_number.1 M_Re_number.1 ∈ mm_G := mm_wat 7 (by decide +kernel) rfl
theorem cw_Re_isLetter : mm_cw M_Re_isLetter 1 := ⟨mm_wat 518 (by decide +kernel) rfl, mm_wat 88 (by decide +kernel) rfl, ⟨by decide +kernel, by decide +kernel, by decide +kernel⟩, by decide⟩
theorem sx_Re_isLetter : Cond.static M_Re_isLetter.1 ∈ mm_G := mm_wat 517 (by decide +kernel) rfl
theorem cw_Re_word : mm_cw M_Re_word 0 := ⟨mm_wat 522 (by decide +kernel) rfl, mm_wat 88 (by decide +kernel) rfl, ⟨by decide +kernel, by decide +kernel, by decide +kernel⟩, by decide⟩
theorem in_Re_word : Cond.instanceMethod M_Re_word.1 ∈ mm_G := mm_wat 521 (by decide +kernel) rfl
theorem sl_Re_word : Cond.selects "SchoolOnRaft$Reader" M_Re_word.1 M_Re_word.1 ∈ mm_G := mm_wat 8 (by decide +kernel) rfl
theorem cw_Re_reads : mm_cw M_Re_reads 1 := ⟨mm_wat 527 (by decide +kernel) rfl, mm_wat 88 (by decide +kernel) rfl, ⟨by decide +kernel, by decide +kernel, by decide +kernel⟩, by decide⟩
theorem in_Re_reads : Cond.instanceMethod M_Re_reads.1 ∈ mm_G := mm_wat 526 (by decide +kernel) rfl
theorem sl_Re_reads : Cond.selects "SchoolOnRaft$Reader" M_Re_reads.1 M_Re_reads.1 ∈ mm_G := mm_wat 9 (by decide +kernel) rfl
theorem cw_St_length : mm_cw M_St_length 0 := ⟨mm_wat 531 (by decide +kernel) rfl, mm_wat 90 (by decide +kernel) rfl, ⟨by decide +kernel, by decide +kernel, by decide +kernel⟩, by decide⟩
theorem in_St_length : Cond.instanceMethod M_St_length.1 ∈ mm_G := mm_wat 529 (by decide +kernel) rfl
theorem sl_St_length : Cond.selects "java/lang/String" M_St_length.1 M_St_length.1 ∈ mm_G := mm_wat 530 (by decide +kernel) rfl
theorem cw_St_coder : mm_cw M_St_coder 0 := ⟨mm_wat 535 (by decide +kernel) rfl, mm_wat 90 (by decide +kernel) rfl, ⟨by decide +kernel, by decide +kernel, by decide +kernel⟩, by decide⟩
theorem in_St_coder : Cond.instanceMethod M_St_coder.1 ∈ mm_G := mm_wat 533 (by decide +kernel) rfl
theorem sl_St_coder : Cond.selects "java/lang/String" M_St_coder.1 M_St_coder.1 ∈ mm_G := mm_wat 534 (by decide +kernel) rfl
theorem cw_St_charAt : mm_cw M_St_charAt 1 := ⟨mm_wat 541 (by decide +kernel) rfl, mm_wat 90 (by decide +kernel) rfl, ⟨by decide +kernel, by decide +kernel, by decide +kernel⟩, by decide⟩
theorem in_St_charAt : Cond.instanceMethod M_St_charAt.1 ∈ mm_G := mm_wat 539 (by decide +kernel) rfl
theorem sl_St_charAt : Cond.selects "java/lang/String" M_St_charAt.1 M_St_charAt.1 ∈ mm_G := mm_wat 540 (by decide +kernel) rfl
theorem cw_St_isLatin1 : mm_cw M_St_isLatin1 0 := ⟨mm_wat 545 (by decide +kernel) rfl, mm_wat 90 (by decide +kernel) rfl, ⟨by decide +kernel, by decide +kernel, by decide +kernel⟩, by decide⟩
theorem in_St_isLatin1 : Cond.instanceMethod M_St_isLatin1.1 ∈ mm_G := mm_wat 543 (by decide +kernel) rfl
theorem sl_St_isLatin1 : Cond.selects "java/lang/String" M_St_isLatin1.1 M_St_isLatin1.1 ∈ mm_G := mm_wat 544 (by decide +kernel) rfl
theorem cw_Sl_charAt : mm_cw M_Sl_charAt 2 := ⟨mm_wat 548 (by decide +kernel) rfl, mm_wat 91 (by decide +kernel) rfl, ⟨by decide +kernel, by decide +kernel, by decide +kernel⟩, by decide⟩
theorem sx_Sl_charAt : Cond.static M_Sl_charAt.1 ∈ mm_G := mm_wat 547 (by decide +kernel) rfl
theorem cw_St_checkIndex : mm_cw M_St_checkIndex 2 := ⟨mm_wat 551 (by decide +kernel) rfl, mm_wat 90 (by decide +kernel) rfl, ⟨by decide +kernel, by decide +kernel, by decide +kernel⟩, by decide⟩
theorem sx_St_checkIndex : Cond.static M_St_checkIndex.1 ∈ mm_G := mm_wat 550 (by decide +kernel) rfl
theorem cw_Pr_checkIndex : mm_cw M_Pr_checkIndex 3 := ⟨mm_wat 556 (by decide +kernel) rfl, mm_wat 92 (by decide +kernel) rfl, ⟨by decide +kernel, by decide +kernel, by decide +kernel⟩, by decide⟩
theorem sx_Pr_checkIndex : Cond.static M_Pr_checkIndex.1 ∈ mm_G := mm_wat 555 (by decide +kernel) rfl
theorem cw_Re_sign : mm_cw M_Re_sign 1 := ⟨mm_wat 589 (by decide +kernel) rfl, mm_wat 88 (by decide +kernel) rfl, ⟨by decide +kernel, by decide +kernel, by decide +kernel⟩, by decide⟩
theorem sx_Re_sign : Cond.static M_Re_sign.1 ∈ mm_G := mm_wat 588 (by decide +kernel) rfl
theorem cw_Re_section : mm_cw M_Re_section 1 := ⟨mm_wat 593 (by decide +kernel) rfl, mm_wat 88 (by decide +kernel) rfl, ⟨by decide +kernel, by decide +kernel, by decide +kernel⟩, by decide⟩
theorem in_Re_section : Cond.instanceMethod M_Re_section.1 ∈ mm_G := mm_wat 592 (by decide +kernel) rfl
theorem sl_Re_section : Cond.selects "SchoolOnRaft$Reader" M_Re_section.1 M_Re_section.1 ∈ mm_G := mm_wat 10 (by decide +kernel) rfl
theorem cw_Re_either : mm_cw M_Re_either 1 := ⟨mm_wat 597 (by decide +kernel) rfl, mm_wat 88 (by decide +kernel) rfl, ⟨by decide +kernel, by decide +kernel, by decide +kernel⟩, by decide⟩
theorem in_Re_either : Cond.instanceMethod M_Re_either.1 ∈ mm_G := mm_wat 596 (by decide +kernel) rfl
theorem sl_Re_either : Cond.selects "SchoolOnRaft$Reader" M_Re_either.1 M_Re_either.1 ∈ mm_G := mm_wat 11 (by decide +kernel) rfl
theorem cw_Re_both : mm_cw M_Re_both 1 := ⟨mm_wat 601 (by decide +kernel) rfl, mm_wat 88 (by decide +kernel) rfl, ⟨by decide +kernel, by decide +kernel, by decide +kernel⟩, by decide⟩
theorem in_Re_both : Cond.instanceMethod M_Re_both.1 ∈ mm_G := mm_wat 600 (by decide +kernel) rfl
theorem sl_Re_both : Cond.selects "SchoolOnRaft$Reader" M_Re_both.1 M_Re_both.1 ∈ mm_G := mm_wat 12 (by decide +kernel) rfl
theorem cw_Re_denied : mm_cw M_Re_denied 1 := ⟨mm_wat 605 (by decide +kernel) rfl, mm_wat 88 (by decide +kernel) rfl, ⟨by decide +kernel, by decide +kernel, by decide +kernel⟩, by decide⟩
theorem in_Re_denied : Cond.instanceMethod M_Re_denied.1 ∈ mm_G := mm_wat 604 (by decide +kernel) rfl
theorem sl_Re_denied : Cond.selects "SchoolOnRaft$Reader" M_Re_denied.1 M_Re_denied.1 ∈ mm_G := mm_wat 13 (by decide +kernel) rfl
theorem cw_Re_compared : mm_cw M_Re_compared 1 := ⟨mm_wat 609 (by decide +kernel) rfl, mm_wat 88 (by decide +kernel) rfl, ⟨by decide +kernel, by decide +kernel, by decide +kernel⟩, by decide⟩
theorem in_Re_compared : Cond.instanceMethod M_Re_compared.1 ∈ mm_G := mm_wat 608 (by decide +kernel) rfl
theorem sl_Re_compared : Cond.selects "SchoolOnRaft$Reader" M_Re_compared.1 M_Re_compared.1 ∈ mm_G := mm_wat 14 (by decide +kernel) rfl
theorem cw_Re_sum : mm_cw M_Re_sum 1 := ⟨mm_wat 613 (by decide +kernel) rfl, mm_wat 88 (by decide +kernel) rfl, ⟨by decide +kernel, by decide +kernel, by decide +kernel⟩, by decide⟩
theorem in_Re_sum : Cond.instanceMethod M_Re_sum.1 ∈ mm_G := mm_wat 612 (by decide +kernel) rfl
theorem sl_Re_sum : Cond.selects "SchoolOnRaft$Reader" M_Re_sum.1 M_Re_sum.1 ∈ mm_G := mm_wat 15 (by decide +kernel) rfl
theorem cw_Re_term : mm_cw M_Re_term 1 := ⟨mm_wat 617 (by decide +kernel) rfl, mm_wat 88 (by decide +kernel) rfl, ⟨by decide +kernel, by decide +kernel, by decide +kernel⟩, by decide⟩
theorem in_Re_term : Cond.instanceMethod M_Re_term.1 ∈ mm_G := mm_wat 616 (by decide +kernel) rfl
theorem sl_Re_term : Cond.selects "SchoolOnRaft$Reader" M_Re_term.1 M_Re_term.1 ∈ mm_G := mm_wat 16 (by decide +kernel) rfl
theorem cw_Re_one : mm_cw M_Re_one 1 := ⟨mm_wat 621 (by decide +kernel) rfl, mm_wat 88 (by decide +kernel) rfl, ⟨by decide +kernel, by decide +kernel, by decide +kernel⟩, by decide⟩
theorem in_Re_one : Cond.instanceMethod M_Re_one.1 ∈ mm_G := mm_wat 620 (by decide +kernel) rfl
theorem sl_Re_one : Cond.selects "SchoolOnRaft$Reader" M_Re_one.1 M_Re_one.1 ∈ mm_G := mm_wat 17 (by decide +kernel) rfl
theorem cw_Re_write : mm_cw M_Re_write 1 := ⟨mm_wat 625 (by decide +kernel) rfl, mm_wat 88 (by decide +kernel) rfl, ⟨by decide +kernel, by decide +kernel, by decide +kernel⟩, by decide⟩
theorem in_Re_write : Cond.instanceMethod M_Re_write.1 ∈ mm_G := mm_wat 624 (by decide +kernel) rfl
theorem sl_Re_write : Cond.selects "SchoolOnRaft$Reader" M_Re_write.1 M_Re_write.1 ∈ mm_G := mm_wat 18 (by decide +kernel) rfl
theorem cw_Ar_copyOf : mm_cw M_Ar_copyOf 2 := ⟨mm_wat 628 (by decide +kernel) rfl, mm_wat 79 (by decide +kernel) rfl, ⟨by decide +kernel, by decide +kernel, by decide +kernel⟩, by decide⟩
theorem sx_Ar_copyOf : Cond.static M_Ar_copyOf.1 ∈ mm_G := mm_wat 627 (by decide +kernel) rfl
theorem cw_Ma_min : mm_cw M_Ma_min 2 := ⟨mm_wat 638 (by decide +kernel) rfl, mm_wat 94 (by decide +kernel) rfl, ⟨by decide +kernel, by decide +kernel, by decide +kernel⟩, by decide⟩
theorem sx_Ma_min : Cond.static M_Ma_min.1 ∈ mm_G := mm_wat 637 (by decide +kernel) rfl
theorem cw_Sc_force : mm_cw M_Sc_force 1 := ⟨mm_wat 648 (by decide +kernel) rfl, mm_wat 76 (by decide +kernel) rfl, ⟨by decide +kernel, by decide +kernel, by decide +kernel⟩, by decide⟩
theorem in_Sc_force : Cond.instanceMethod M_Sc_force.1 ∈ mm_G := mm_wat 646 (by decide +kernel) rfl
theorem sl_Sc_force : Cond.selects "SchoolOnRaft" M_Sc_force.1 M_Sc_force.1 ∈ mm_G := mm_wat 647 (by decide +kernel) rfl
theorem cw_Sc_has : mm_cw M_Sc_has 2 := ⟨mm_wat 652 (by decide +kernel) rfl, mm_wat 76 (by decide +kernel) rfl, ⟨by decide +kernel, by decide +kernel, by decide +kernel⟩, by decide⟩
theorem in_Sc_has : Cond.instanceMethod M_Sc_has.1 ∈ mm_G := mm_wat 650 (by decide +kernel) rfl
theorem sl_Sc_has : Cond.selects "SchoolOnRaft" M_Sc_has.1 M_Sc_has.1 ∈ mm_G := mm_wat 651 (by decide +kernel) rfl
theorem cw_Sp_ownedBehind : mm_cw M_Sp_ownedBehind 4 := ⟨mm_wat 656 (by decide +kernel) rfl, mm_wat 77 (by decide +kernel) rfl, ⟨by decide +kernel, by decide +kernel, by decide +kernel⟩, by decide⟩
theorem in_Sp_ownedBehind : Cond.instanceMethod M_Sp_ownedBehind.1 ∈ mm_G := mm_wat 654 (by decide +kernel) rfl
theorem sl_Sp_ownedBehind : Cond.selects "SchoolOnRaft$Spring" M_Sp_ownedBehind.1 M_Sp_ownedBehind.1 ∈ mm_G := mm_wat 655 (by decide +kernel) rfl
theorem cw_Sp_memoryOf : mm_cw M_Sp_memoryOf 4 := ⟨mm_wat 661 (by decide +kernel) rfl, mm_wat 77 (by decide +kernel) rfl, ⟨by decide +kernel, by decide +kernel, by decide +kernel⟩, by decide⟩
theorem in_Sp_memoryOf : Cond.instanceMethod M_Sp_memoryOf.1 ∈ mm_G := mm_wat 659 (by decide +kernel) rfl
theorem sl_Sp_memoryOf : Cond.selects "SchoolOnRaft$Spring" M_Sp_memoryOf.1 M_Sp_memoryOf.1 ∈ mm_G := mm_wat 660 (by decide +kernel) rfl
theorem cw_Sp_owned : mm_cw M_Sp_owned 2 := ⟨mm_wat 665 (by decide +kernel) rfl, mm_wat 77 (by decide +kernel) rfl, ⟨by decide +kernel, by decide +kernel, by decide +kernel⟩, by decide⟩
theorem in_Sp_owned : Cond.instanceMethod M_Sp_owned.1 ∈ mm_G := mm_wat 663 (by decide +kernel) rfl
theorem sl_Sp_owned : Cond.selects "SchoolOnRaft$Spring" M_Sp_owned.1 M_Sp_owned.1 ∈ mm_G := mm_wat 664 (by decide +kernel) rfl
theorem cw_Sp_lastUnderstood : mm_cw M_Sp_lastUnderstood 2 := ⟨mm_wat 668 (by decide +kernel) rfl, mm_wat 77 (by decide +kernel) rfl, ⟨by decide +kernel, by decide +kernel, by decide +kernel⟩, by decide⟩
theorem sx_Sp_lastUnderstood : Cond.static M_Sp_lastUnderstood.1 ∈ mm_G := mm_wat 667 (by decide +kernel) rfl
theorem cw_Hk_keeps : mm_cw M_Hk_keeps 2 := ⟨mm_wat 676 (by decide +kernel) rfl, mm_wat 84 (by decide +kernel) rfl, ⟨by decide +kernel, by decide +kernel, by decide +kernel⟩, by decide⟩
theorem in_Hk_keeps : Cond.instanceMethod M_Hk_keeps.1 ∈ mm_G := mm_wat 675 (by decide +kernel) rfl
theorem cw_Li_keeps : mm_cw M_Li_keeps 2 := ⟨mm_wat 682 (by decide +kernel) rfl, mm_wat 83 (by decide +kernel) rfl, ⟨by decide +kernel, by decide +kernel, by decide +kernel⟩, by decide⟩
theorem in_Li_keeps : Cond.instanceMethod M_Li_keeps.1 ∈ mm_G := mm_wat 681 (by decide +kernel) rfl
theorem cw_So_keeps : mm_cw M_So_keeps 2 := ⟨mm_wat 687 (by decide +kernel) rfl, mm_wat 85 (by decide +kernel) rfl, ⟨by decide +kernel, by decide +kernel, by decide +kernel⟩, by decide⟩
theorem in_So_keeps : Cond.instanceMethod M_So_keeps.1 ∈ mm_G := mm_wat 686 (by decide +kernel) rfl
theorem cw_Kd_keeps : mm_cw M_Kd_keeps 2 := ⟨mm_wat 689 (by decide +kernel) rfl, mm_wat 81 (by decide +kernel) rfl, ⟨by decide +kernel, by decide +kernel, by decide +kernel⟩, by decide⟩
theorem in_Kd_keeps : Cond.instanceMethod M_Kd_keeps.1 ∈ mm_G := mm_wat 671 (by decide +kernel) rfl
theorem sl_Kd_keeps : Cond.selects "SchoolOnRaft$Kind" M_Kd_keeps.1 M_Kd_keeps.1 ∈ mm_G := mm_wat 672 (by decide +kernel) rfl
theorem cw_In_bitCount : mm_cw M_In_bitCount 1 := ⟨mm_wat 692 (by decide +kernel) rfl, mm_wat 96 (by decide +kernel) rfl, ⟨by decide +kernel, by decide +kernel, by decide +kernel⟩, by decide⟩
theorem sx_In_bitCount : Cond.static M_In_bitCount.1 ∈ mm_G := mm_wat 691 (by decide +kernel) rfl
theorem cw_Sp_timesHeard : mm_cw M_Sp_timesHeard 2 := ⟨mm_wat 698 (by decide +kernel) rfl, mm_wat 77 (by decide +kernel) rfl, ⟨by decide +kernel, by decide +kernel, by decide +kernel⟩, by decide⟩
theorem sx_Sp_timesHeard : Cond.static M_Sp_timesHeard.1 ∈ mm_G := mm_wat 697 (by decide +kernel) rfl
theorem cw_Sp_hears : mm_cw M_Sp_hears 5 := ⟨mm_wat 702 (by decide +kernel) rfl, mm_wat 77 (by decide +kernel) rfl, ⟨by decide +kernel, by decide +kernel, by decide +kernel⟩, by decide⟩
theorem in_Sp_hears : Cond.instanceMethod M_Sp_hears.1 ∈ mm_G := mm_wat 700 (by decide +kernel) rfl
theorem sl_Sp_hears : Cond.selects "SchoolOnRaft$Spring" M_Sp_hears.1 M_Sp_hears.1 ∈ mm_G := mm_wat 701 (by decide +kernel) rfl
theorem cw_Sp_stage : mm_cw M_Sp_stage 5 := ⟨mm_wat 706 (by decide +kernel) rfl, mm_wat 77 (by decide +kernel) rfl, ⟨by decide +kernel, by decide +kernel, by decide +kernel⟩, by decide⟩
theorem in_Sp_stage : Cond.instanceMethod M_Sp_stage.1 ∈ mm_G := mm_wat 705 (by decide +kernel) rfl
theorem sl_Sp_stage : Cond.selects "SchoolOnRaft$Spring" M_Sp_stage.1 M_Sp_stage.1 ∈ mm_G := mm_wat 19 (by decide +kernel) rfl
theorem cw_Sp_ruleText : mm_cw M_Sp_ruleText 0 := ⟨mm_wat 710 (by decide +kernel) rfl, mm_wat 77 (by decide +kernel) rfl, ⟨by decide +kernel, by decide +kernel, by decide +kernel⟩, by decide⟩
theorem in_Sp_ruleText : Cond.instanceMethod M_Sp_ruleText.1 ∈ mm_G := mm_wat 709 (by decide +kernel) rfl
theorem sl_Sp_ruleText : Cond.selects "SchoolOnRaft$Spring" M_Sp_ruleText.1 M_Sp_ruleText.1 ∈ mm_G := mm_wat 20 (by decide +kernel) rfl
theorem cw_Sp_worked : mm_cw M_Sp_worked 1 := ⟨mm_wat 714 (by decide +kernel) rfl, mm_wat 77 (by decide +kernel) rfl, ⟨by decide +kernel, by decide +kernel, by decide +kernel⟩, by decide⟩
theorem in_Sp_worked : Cond.instanceMethod M_Sp_worked.1 ∈ mm_G := mm_wat 713 (by decide +kernel) rfl
theorem sl_Sp_worked : Cond.selects "SchoolOnRaft$Spring" M_Sp_worked.1 M_Sp_worked.1 ∈ mm_G := mm_wat 21 (by decide +kernel) rfl
theorem cw_Sp_joined : mm_cw M_Sp_joined 3 := ⟨mm_wat 717 (by decide +kernel) rfl, mm_wat 77 (by decide +kernel) rfl, ⟨by decide +kernel, by decide +kernel, by decide +kernel⟩, by decide⟩
theorem sx_Sp_joined : Cond.static M_Sp_joined.1 ∈ mm_G := mm_wat 716 (by decide +kernel) rfl
theorem cw_Sp_listened : mm_cw M_Sp_listened 3 := ⟨mm_wat 721 (by decide +kernel) rfl, mm_wat 77 (by decide +kernel) rfl, ⟨by decide +kernel, by decide +kernel, by decide +kernel⟩, by decide⟩
theorem in_Sp_listened : Cond.instanceMethod M_Sp_listened.1 ∈ mm_G := mm_wat 719 (by decide +kernel) rfl
theorem sl_Sp_listened : Cond.selects "SchoolOnRaft$Spring" M_Sp_listened.1 M_Sp_listened.1 ∈ mm_G := mm_wat 720 (by decide +kernel) rfl
theorem cw_Sc_heard : mm_cw M_Sc_heard 3 := ⟨mm_wat 726 (by decide +kernel) rfl, mm_wat 76 (by decide +kernel) rfl, ⟨by decide +kernel, by decide +kernel, by decide +kernel⟩, by decide⟩
theorem in_Sc_heard : Cond.instanceMethod M_Sc_heard.1 ∈ mm_G := mm_wat 724 (by decide +kernel) rfl
theorem sl_Sc_heard : Cond.selects "SchoolOnRaft" M_Sc_heard.1 M_Sc_heard.1 ∈ mm_G := mm_wat 725 (by decide +kernel) rfl
theorem cw_Sc_points : mm_cw M_Sc_points 1 := ⟨mm_wat 733 (by decide +kernel) rfl, mm_wat 76 (by decide +kernel) rfl, ⟨by decide +kernel, by decide +kernel, by decide +kernel⟩, by decide⟩
theorem in_Sc_points : Cond.instanceMethod M_Sc_points.1 ∈ mm_G := mm_wat 731 (by decide +kernel) rfl
theorem sl_Sc_points : Cond.selects "SchoolOnRaft" M_Sc_points.1 M_Sc_points.1 ∈ mm_G := mm_wat 732 (by decide +kernel) rfl
theorem cw_Sc_pointsOfAll : mm_cw M_Sc_pointsOfAll 1 := ⟨mm_wat 737 (by decide +kernel) rfl, mm_wat 76 (by decide +kernel) rfl, ⟨by decide +kernel, by decide +kernel, by decide +kernel⟩, by decide⟩
theorem in_Sc_pointsOfAll : Cond.instanceMethod M_Sc_pointsOfAll.1 ∈ mm_G := mm_wat 736 (by decide +kernel) rfl
theorem sl_Sc_pointsOfAll : Cond.selects "SchoolOnRaft" M_Sc_pointsOfAll.1 M_Sc_pointsOfAll.1 ∈ mm_G := mm_wat 22 (by decide +kernel) rfl
theorem cw_Sp_pointsOf : mm_cw M_Sp_pointsOf 2 := ⟨mm_wat 741 (by decide +kernel) rfl, mm_wat 77 (by decide +kernel) rfl, ⟨by decide +kernel, by decide +kernel, by decide +kernel⟩, by decide⟩
theorem in_Sp_pointsOf : Cond.instanceMethod M_Sp_pointsOf.1 ∈ mm_G := mm_wat 739 (by decide +kernel) rfl
theorem sl_Sp_pointsOf : Cond.selects "SchoolOnRaft$Spring" M_Sp_pointsOf.1 M_Sp_pointsOf.1 ∈ mm_G := mm_wat 740 (by decide +kernel) rfl
theorem cw_Sp_gain : mm_cw M_Sp_gain 4 := ⟨mm_wat 745 (by decide +kernel) rfl, mm_wat 77 (by decide +kernel) rfl, ⟨by decide +kernel, by decide +kernel, by decide +kernel⟩, by decide⟩
theorem in_Sp_gain : Cond.instanceMethod M_Sp_gain.1 ∈ mm_G := mm_wat 743 (by decide +kernel) rfl
theorem sl_Sp_gain : Cond.selects "SchoolOnRaft$Spring" M_Sp_gain.1 M_Sp_gain.1 ∈ mm_G := mm_wat 744 (by decide +kernel) rfl
theorem cw_Ma_max : mm_cw M_Ma_max 2 := ⟨mm_wat 748 (by decide +kernel) rfl, mm_wat 94 (by decide +kernel) rfl, ⟨by decide +kernel, by decide +kernel, by decide +kernel⟩, by decide⟩
theorem sx_Ma_max : Cond.static M_Ma_max.1 ∈ mm_G := mm_wat 747 (by decide +kernel) rfl
theorem cw_Sc_best : mm_cw M_Sc_best 1 := ⟨mm_wat 753 (by decide +kernel) rfl, mm_wat 76 (by decide +kernel) rfl, ⟨by decide +kernel, by decide +kernel, by decide +kernel⟩, by decide⟩
theorem in_Sc_best : Cond.instanceMethod M_Sc_best.1 ∈ mm_G := mm_wat 751 (by decide +kernel) rfl
theorem sl_Sc_best : Cond.selects "SchoolOnRaft" M_Sc_best.1 M_Sc_best.1 ∈ mm_G := mm_wat 752 (by decide +kernel) rfl
theorem cw_Se_find : mm_cw M_Se_find 1 := ⟨mm_wat 757 (by decide +kernel) rfl, mm_wat 87 (by decide +kernel) rfl, ⟨by decide +kernel, by decide +kernel, by decide +kernel⟩, by decide⟩
theorem in_Se_find : Cond.instanceMethod M_Se_find.1 ∈ mm_G := mm_wat 755 (by decide +kernel) rfl
theorem sl_Se_find : Cond.selects "SchoolOnRaft$Search" M_Se_find.1 M_Se_find.1 ∈ mm_G := mm_wat 756 (by decide +kernel) rfl
theorem cw_Se_visit : mm_cw M_Se_visit 2 := ⟨mm_wat 762 (by decide +kernel) rfl, mm_wat 87 (by decide +kernel) rfl, ⟨by decide +kernel, by decide +kernel, by decide +kernel⟩, by decide⟩
theorem in_Se_visit : Cond.instanceMethod M_Se_visit.1 ∈ mm_G := mm_wat 761 (by decide +kernel) rfl
theorem sl_Se_visit : Cond.selects "SchoolOnRaft$Search" M_Se_visit.1 M_Se_visit.1 ∈ mm_G := mm_wat 23 (by decide +kernel) rfl
theorem cw_Se_weigh : mm_cw M_Se_weigh 1 := ⟨mm_wat 766 (by decide +kernel) rfl, mm_wat 87 (by decide +kernel) rfl, ⟨by decide +kernel, by decide +kernel, by decide +kernel⟩, by decide⟩
theorem in_Se_weigh : Cond.instanceMethod M_Se_weigh.1 ∈ mm_G := mm_wat 765 (by decide +kernel) rfl
theorem sl_Se_weigh : Cond.selects "SchoolOnRaft$Search" M_Se_weigh.1 M_Se_weigh.1 ∈ mm_G := mm_wat 24 (by decide +kernel) rfl
theorem cw_Se_step : mm_cw M_Se_step 3 := ⟨mm_wat 775 (by decide +kernel) rfl, mm_wat 87 (by decide +kernel) rfl, ⟨by decide +kernel, by decide +kernel, by decide +kernel⟩, by decide⟩
theorem in_Se_step : Cond.instanceMethod M_Se_step.1 ∈ mm_G := mm_wat 774 (by decide +kernel) rfl
theorem sl_Se_step : Cond.selects "SchoolOnRaft$Search" M_Se_step.1 M_Se_step.1 ∈ mm_G := mm_wat 25 (by decide +kernel) rfl
theorem cw_Se_listens : mm_cw M_Se_listens 5 := ⟨mm_wat 779 (by decide +kernel) rfl, mm_wat 87 (by decide +kernel) rfl, ⟨by decide +kernel, by decide +kernel, by decide +kernel⟩, by decide⟩
theorem in_Se_listens : Cond.instanceMethod M_Se_listens.1 ∈ mm_G := mm_wat 778 (by decide +kernel) rfl
theorem sl_Se_listens : Cond.selects "SchoolOnRaft$Search" M_Se_listens.1 M_Se_listens.1 ∈ mm_G := mm_wat 26 (by decide +kernel) rfl
theorem cw_Sc_lay : mm_cw M_Sc_lay 0 := ⟨mm_wat 785 (by decide +kernel) rfl, mm_wat 76 (by decide +kernel) rfl, ⟨by decide +kernel, by decide +kernel, by decide +kernel⟩, by decide⟩
theorem in_Sc_lay : Cond.instanceMethod M_Sc_lay.1 ∈ mm_G := mm_wat 783 (by decide +kernel) rfl
theorem sl_Sc_lay : Cond.selects "SchoolOnRaft" M_Sc_lay.1 M_Sc_lay.1 ∈ mm_G := mm_wat 784 (by decide +kernel) rfl
theorem cw_Sc_run : mm_cw M_Sc_run 3 := ⟨mm_wat 790 (by decide +kernel) rfl, mm_wat 76 (by decide +kernel) rfl, ⟨by decide +kernel, by decide +kernel, by decide +kernel⟩, by decide⟩
theorem in_Sc_run : Cond.instanceMethod M_Sc_run.1 ∈ mm_G := mm_wat 788 (by decide +kernel) rfl
theorem sl_Sc_run : Cond.selects "SchoolOnRaft" M_Sc_run.1 M_Sc_run.1 ∈ mm_G := mm_wat 789 (by decide +kernel) rfl
theorem cw_Sc_costOf : mm_cw M_Sc_costOf 3 := ⟨mm_wat 795 (by decide +kernel) rfl, mm_wat 76 (by decide +kernel) rfl, ⟨by decide +kernel, by decide +kernel, by decide +kernel⟩, by decide⟩
theorem in_Sc_costOf : Cond.instanceMethod M_Sc_costOf.1 ∈ mm_G := mm_wat 794 (by decide +kernel) rfl
theorem sl_Sc_costOf : Cond.selects "SchoolOnRaft" M_Sc_costOf.1 M_Sc_costOf.1 ∈ mm_G := mm_wat 27 (by decide +kernel) rfl
theorem cw_Sp_runCost : mm_cw M_Sp_runCost 2 := ⟨mm_wat 799 (by decide +kernel) rfl, mm_wat 77 (by decide +kernel) rfl, ⟨by decide +kernel, by decide +kernel, by decide +kernel⟩, by decide⟩
theorem in_Sp_runCost : Cond.instanceMethod M_Sp_runCost.1 ∈ mm_G := mm_wat 797 (by decide +kernel) rfl
theorem sl_Sp_runCost : Cond.selects "SchoolOnRaft$Spring" M_Sp_runCost.1 M_Sp_runCost.1 ∈ mm_G := mm_wat 798 (by decide +kernel) rfl
theorem cw_Sc_twice : mm_cw M_Sc_twice 2 := ⟨mm_wat 803 (by decide +kernel) rfl, mm_wat 76 (by decide +kernel) rfl, ⟨by decide +kernel, by decide +kernel, by decide +kernel⟩, by decide⟩
theorem in_Sc_twice : Cond.instanceMethod M_Sc_twice.1 ∈ mm_G := mm_wat 801 (by decide +kernel) rfl
theorem sl_Sc_twice : Cond.selects "SchoolOnRaft" M_Sc_twice.1 M_Sc_twice.1 ∈ mm_G := mm_wat 802 (by decide +kernel) rfl
theorem cw_Sc_change : mm_cw M_Sc_change 2 := ⟨mm_wat 807 (by decide +kernel) rfl, mm_wat 76 (by decide +kernel) rfl, ⟨by decide +kernel, by decide +kernel, by decide +kernel⟩, by decide⟩
theorem in_Sc_change : Cond.instanceMethod M_Sc_change.1 ∈ mm_G := mm_wat 805 (by decide +kernel) rfl
theorem sl_Sc_change : Cond.selects "SchoolOnRaft" M_Sc_change.1 M_Sc_change.1 ∈ mm_G := mm_wat 806 (by decide +kernel) rfl
theorem cw_Sc_pointsChanging : mm_cw M_Sc_pointsChanging 2 := ⟨mm_wat 811 (by decide +kernel) rfl, mm_wat 76 (by decide +kernel) rfl, ⟨by decide +kernel, by decide +kernel, by decide +kernel⟩, by decide⟩
theorem in_Sc_pointsChanging : Cond.instanceMethod M_Sc_pointsChanging.1 ∈ mm_G := mm_wat 810 (by decide +kernel) rfl
theorem sl_Sc_pointsChanging : Cond.selects "SchoolOnRaft" M_Sc_pointsChanging.1 M_Sc_pointsChanging.1 ∈ mm_G := mm_wat 28 (by decide +kernel) rfl
theorem cw_Sc_exam : mm_cw M_Sc_exam 2 := ⟨mm_wat 815 (by decide +kernel) rfl, mm_wat 76 (by decide +kernel) rfl, ⟨by decide +kernel, by decide +kernel, by decide +kernel⟩, by decide⟩
theorem in_Sc_exam : Cond.instanceMethod M_Sc_exam.1 ∈ mm_G := mm_wat 813 (by decide +kernel) rfl
theorem sl_Sc_exam : Cond.selects "SchoolOnRaft" M_Sc_exam.1 M_Sc_exam.1 ∈ mm_G := mm_wat 814 (by decide +kernel) rfl
theorem cw_Sc_refusalOfExam : mm_cw M_Sc_refusalOfExam 2 := ⟨mm_wat 819 (by decide +kernel) rfl, mm_wat 76 (by decide +kernel) rfl, ⟨by decide +kernel, by decide +kernel, by decide +kernel⟩, by decide⟩
theorem in_Sc_refusalOfExam : Cond.instanceMethod M_Sc_refusalOfExam.1 ∈ mm_G := mm_wat 818 (by decide +kernel) rfl
theorem sl_Sc_refusalOfExam : Cond.selects "SchoolOnRaft" M_Sc_refusalOfExam.1 M_Sc_refusalOfExam.1 ∈ mm_G := mm_wat 29 (by decide +kernel) rfl
theorem cw_Sc_isSheet : mm_cw M_Sc_isSheet 1 := ⟨mm_wat 822 (by decide +kernel) rfl, mm_wat 76 (by decide +kernel) rfl, ⟨by decide +kernel, by decide +kernel, by decide +kernel⟩, by decide⟩
theorem sx_Sc_isSheet : Cond.static M_Sc_isSheet.1 ∈ mm_G := mm_wat 821 (by decide +kernel) rfl
theorem cw_Sp_firstUnlike : mm_cw M_Sp_firstUnlike 4 := ⟨mm_wat 826 (by decide +kernel) rfl, mm_wat 77 (by decide +kernel) rfl, ⟨by decide +kernel, by decide +kernel, by decide +kernel⟩, by decide⟩
theorem in_Sp_firstUnlike : Cond.instanceMethod M_Sp_firstUnlike.1 ∈ mm_G := mm_wat 824 (by decide +kernel) rfl
theorem sl_Sp_firstUnlike : Cond.selects "SchoolOnRaft$Spring" M_Sp_firstUnlike.1 M_Sp_firstUnlike.1 ∈ mm_G := mm_wat 825 (by decide +kernel) rfl
theorem cw_Sc_aboard : mm_cw M_Sc_aboard 3 := ⟨mm_wat 831 (by decide +kernel) rfl, mm_wat 76 (by decide +kernel) rfl, ⟨by decide +kernel, by decide +kernel, by decide +kernel⟩, by decide⟩
theorem in_Sc_aboard : Cond.instanceMethod M_Sc_aboard.1 ∈ mm_G := mm_wat 829 (by decide +kernel) rfl
theorem sl_Sc_aboard : Cond.selects "SchoolOnRaft" M_Sc_aboard.1 M_Sc_aboard.1 ∈ mm_G := mm_wat 830 (by decide +kernel) rfl
theorem cw_Sc_together : mm_cw M_Sc_together 1 := ⟨mm_wat 835 (by decide +kernel) rfl, mm_wat 76 (by decide +kernel) rfl, ⟨by decide +kernel, by decide +kernel, by decide +kernel⟩, by decide⟩
theorem in_Sc_together : Cond.instanceMethod M_Sc_together.1 ∈ mm_G := mm_wat 833 (by decide +kernel) rfl
theorem sl_Sc_together : Cond.selects "SchoolOnRaft" M_Sc_together.1 M_Sc_together.1 ∈ mm_G := mm_wat 834 (by decide +kernel) rfl
theorem cw_Sc_ownedAtEnd : mm_cw M_Sc_ownedAtEnd 2 := ⟨mm_wat 839 (by decide +kernel) rfl, mm_wat 76 (by decide +kernel) rfl, ⟨by decide +kernel, by decide +kernel, by decide +kernel⟩, by decide⟩
theorem in_Sc_ownedAtEnd : Cond.instanceMethod M_Sc_ownedAtEnd.1 ∈ mm_G := mm_wat 838 (by decide +kernel) rfl
theorem sl_Sc_ownedAtEnd : Cond.selects "SchoolOnRaft" M_Sc_ownedAtEnd.1 M_Sc_ownedAtEnd.1 ∈ mm_G := mm_wat 30 (by decide +kernel) rfl
theorem cw_Sc_endsOf : mm_cw M_Sc_endsOf 1 := ⟨mm_wat 843 (by decide +kernel) rfl, mm_wat 76 (by decide +kernel) rfl, ⟨by decide +kernel, by decide +kernel, by decide +kernel⟩, by decide⟩
theorem in_Sc_endsOf : Cond.instanceMethod M_Sc_endsOf.1 ∈ mm_G := mm_wat 842 (by decide +kernel) rfl
theorem sl_Sc_endsOf : Cond.selects "SchoolOnRaft" M_Sc_endsOf.1 M_Sc_endsOf.1 ∈ mm_G := mm_wat 31 (by decide +kernel) rfl
theorem cw_Sc_known : mm_cw M_Sc_known 1 := ⟨mm_wat 848 (by decide +kernel) rfl, mm_wat 76 (by decide +kernel) rfl, ⟨by decide +kernel, by decide +kernel, by decide +kernel⟩, by decide⟩
theorem in_Sc_known : Cond.instanceMethod M_Sc_known.1 ∈ mm_G := mm_wat 846 (by decide +kernel) rfl
theorem sl_Sc_known : Cond.selects "SchoolOnRaft" M_Sc_known.1 M_Sc_known.1 ∈ mm_G := mm_wat 847 (by decide +kernel) rfl
theorem cw_Sc_whoHave : mm_cw M_Sc_whoHave 2 := ⟨mm_wat 852 (by decide +kernel) rfl, mm_wat 76 (by decide +kernel) rfl, ⟨by decide +kernel, by decide +kernel, by decide +kernel⟩, by decide⟩
theorem in_Sc_whoHave : Cond.instanceMethod M_Sc_whoHave.1 ∈ mm_G := mm_wat 851 (by decide +kernel) rfl
end
section
theorem sl_Sc_whoHave : Cond.selects "SchoolOnRaft" M_Sc_whoHave.1 M_Sc_whoHave.1 ∈ mm_G := mm_wat 32 (by decide +kernel) rfl
theorem cw_Sc_drawn : mm_cw M_Sc_drawn 2 := ⟨mm_wat 856 (by decide +kernel) rfl, mm_wat 76 (by decide +kernel) rfl, ⟨by decide +kernel, by decide +kernel, by decide +kernel⟩, by decide⟩
theorem in_Sc_drawn : Cond.instanceMethod M_Sc_drawn.1 ∈ mm_G := mm_wat 854 (by decide +kernel) rfl
theorem sl_Sc_drawn : Cond.selects "SchoolOnRaft" M_Sc_drawn.1 M_Sc_drawn.1 ∈ mm_G := mm_wat 855 (by decide +kernel) rfl
theorem cw_Sc_isWater : mm_cw M_Sc_isWater 1 := ⟨mm_wat 859 (by decide +kernel) rfl, mm_wat 76 (by decide +kernel) rfl, ⟨by decide +kernel, by decide +kernel, by decide +kernel⟩, by decide⟩
theorem sx_Sc_isWater : Cond.static M_Sc_isWater.1 ∈ mm_G := mm_wat 858 (by decide +kernel) rfl
theorem cw_Sc_draw : mm_cw M_Sc_draw 2 := ⟨mm_wat 863 (by decide +kernel) rfl, mm_wat 76 (by decide +kernel) rfl, ⟨by decide +kernel, by decide +kernel, by decide +kernel⟩, by decide⟩
theorem in_Sc_draw : Cond.instanceMethod M_Sc_draw.1 ∈ mm_G := mm_wat 862 (by decide +kernel) rfl
theorem sl_Sc_draw : Cond.selects "SchoolOnRaft" M_Sc_draw.1 M_Sc_draw.1 ∈ mm_G := mm_wat 33 (by decide +kernel) rfl
theorem cw_Sc_chance : mm_cw M_Sc_chance 5 := ⟨mm_wat 868 (by decide +kernel) rfl, mm_wat 76 (by decide +kernel) rfl, ⟨by decide +kernel, by decide +kernel, by decide +kernel⟩, by decide⟩
theorem in_Sc_chance : Cond.instanceMethod M_Sc_chance.1 ∈ mm_G := mm_wat 866 (by decide +kernel) rfl
theorem sl_Sc_chance : Cond.selects "SchoolOnRaft" M_Sc_chance.1 M_Sc_chance.1 ∈ mm_G := mm_wat 867 (by decide +kernel) rfl
theorem cw_Sc_commonDivisor : mm_cw M_Sc_commonDivisor 2 := ⟨mm_wat 872 (by decide +kernel) rfl, mm_wat 76 (by decide +kernel) rfl, ⟨by decide +kernel, by decide +kernel, by decide +kernel⟩, by decide⟩
theorem sx_Sc_commonDivisor : Cond.static M_Sc_commonDivisor.1 ∈ mm_G := mm_wat 871 (by decide +kernel) rfl
theorem cw_Sc_image : mm_cw M_Sc_image 0 := ⟨mm_wat 876 (by decide +kernel) rfl, mm_wat 76 (by decide +kernel) rfl, ⟨by decide +kernel, by decide +kernel, by decide +kernel⟩, by decide⟩
theorem in_Sc_image : Cond.instanceMethod M_Sc_image.1 ∈ mm_G := mm_wat 874 (by decide +kernel) rfl
theorem sl_Sc_image : Cond.selects "SchoolOnRaft" M_Sc_image.1 M_Sc_image.1 ∈ mm_G := mm_wat 875 (by decide +kernel) rfl
theorem cw_Bo_become : mm_cw M_Bo_become 1 := ⟨mm_wat 880 (by decide +kernel) rfl, mm_wat 78 (by decide +kernel) rfl, ⟨by decide +kernel, by decide +kernel, by decide +kernel⟩, by decide⟩
theorem in_Bo_become : Cond.instanceMethod M_Bo_become.1 ∈ mm_G := mm_wat 878 (by decide +kernel) rfl
theorem sl_Bo_become : Cond.selects "SchoolOnRaft$Board" M_Bo_become.1 M_Bo_become.1 ∈ mm_G := mm_wat 879 (by decide +kernel) rfl
theorem cw_Sc_back : mm_cw M_Sc_back 0 := ⟨mm_wat 885 (by decide +kernel) rfl, mm_wat 76 (by decide +kernel) rfl, ⟨by decide +kernel, by decide +kernel, by decide +kernel⟩, by decide⟩
theorem in_Sc_back : Cond.instanceMethod M_Sc_back.1 ∈ mm_G := mm_wat 883 (by decide +kernel) rfl
theorem sl_Sc_back : Cond.selects "SchoolOnRaft" M_Sc_back.1 M_Sc_back.1 ∈ mm_G := mm_wat 884 (by decide +kernel) rfl
theorem cw_Sc_count : mm_cw M_Sc_count 1 := ⟨mm_wat 889 (by decide +kernel) rfl, mm_wat 76 (by decide +kernel) rfl, ⟨by decide +kernel, by decide +kernel, by decide +kernel⟩, by decide⟩
theorem in_Sc_count : Cond.instanceMethod M_Sc_count.1 ∈ mm_G := mm_wat 887 (by decide +kernel) rfl
theorem sl_Sc_count : Cond.selects "SchoolOnRaft" M_Sc_count.1 M_Sc_count.1 ∈ mm_G := mm_wat 888 (by decide +kernel) rfl
theorem cw_Sc_bendsWithLesson : mm_cw M_Sc_bendsWithLesson 1 := ⟨mm_wat 892 (by decide +kernel) rfl, mm_wat 76 (by decide +kernel) rfl, ⟨by decide +kernel, by decide +kernel, by decide +kernel⟩, by decide⟩
theorem sx_Sc_bendsWithLesson : Cond.static M_Sc_bendsWithLesson.1 ∈ mm_G := mm_wat 891 (by decide +kernel) rfl
theorem cw_Sc_sheet : mm_cw M_Sc_sheet 3 := ⟨mm_wat 896 (by decide +kernel) rfl, mm_wat 76 (by decide +kernel) rfl, ⟨by decide +kernel, by decide +kernel, by decide +kernel⟩, by decide⟩
theorem in_Sc_sheet : Cond.instanceMethod M_Sc_sheet.1 ∈ mm_G := mm_wat 894 (by decide +kernel) rfl
theorem sl_Sc_sheet : Cond.selects "SchoolOnRaft" M_Sc_sheet.1 M_Sc_sheet.1 ∈ mm_G := mm_wat 895 (by decide +kernel) rfl
theorem cw_Sc_isSort : mm_cw M_Sc_isSort 1 := ⟨mm_wat 899 (by decide +kernel) rfl, mm_wat 76 (by decide +kernel) rfl, ⟨by decide +kernel, by decide +kernel, by decide +kernel⟩, by decide⟩
theorem sx_Sc_isSort : Cond.static M_Sc_isSort.1 ∈ mm_G := mm_wat 898 (by decide +kernel) rfl
theorem cw_Sc_cell : mm_cw M_Sc_cell 3 := ⟨mm_wat 903 (by decide +kernel) rfl, mm_wat 76 (by decide +kernel) rfl, ⟨by decide +kernel, by decide +kernel, by decide +kernel⟩, by decide⟩
theorem in_Sc_cell : Cond.instanceMethod M_Sc_cell.1 ∈ mm_G := mm_wat 901 (by decide +kernel) rfl
theorem sl_Sc_cell : Cond.selects "SchoolOnRaft" M_Sc_cell.1 M_Sc_cell.1 ∈ mm_G := mm_wat 902 (by decide +kernel) rfl
theorem cw_Sc_trimmed : mm_cw M_Sc_trimmed 2 := ⟨mm_wat 906 (by decide +kernel) rfl, mm_wat 76 (by decide +kernel) rfl, ⟨by decide +kernel, by decide +kernel, by decide +kernel⟩, by decide⟩
theorem sx_Sc_trimmed : Cond.static M_Sc_trimmed.1 ∈ mm_G := mm_wat 905 (by decide +kernel) rfl
theorem cw_Sc_copy : mm_cw M_Sc_copy 5 := ⟨mm_wat 910 (by decide +kernel) rfl, mm_wat 76 (by decide +kernel) rfl, ⟨by decide +kernel, by decide +kernel, by decide +kernel⟩, by decide⟩
theorem in_Sc_copy : Cond.instanceMethod M_Sc_copy.1 ∈ mm_G := mm_wat 908 (by decide +kernel) rfl
theorem sl_Sc_copy : Cond.selects "SchoolOnRaft" M_Sc_copy.1 M_Sc_copy.1 ∈ mm_G := mm_wat 909 (by decide +kernel) rfl
theorem cw_Sc_isStretch : mm_cw M_Sc_isStretch 3 := ⟨mm_wat 913 (by decide +kernel) rfl, mm_wat 76 (by decide +kernel) rfl, ⟨by decide +kernel, by decide +kernel, by decide +kernel⟩, by decide⟩
theorem sx_Sc_isStretch : Cond.static M_Sc_isStretch.1 ∈ mm_G := mm_wat 912 (by decide +kernel) rfl
theorem cw_Sc_children : mm_cw M_Sc_children 4 := ⟨mm_wat 917 (by decide +kernel) rfl, mm_wat 76 (by decide +kernel) rfl, ⟨by decide +kernel, by decide +kernel, by decide +kernel⟩, by decide⟩
theorem in_Sc_children : Cond.instanceMethod M_Sc_children.1 ∈ mm_G := mm_wat 915 (by decide +kernel) rfl
theorem sl_Sc_children : Cond.selects "SchoolOnRaft" M_Sc_children.1 M_Sc_children.1 ∈ mm_G := mm_wat 916 (by decide +kernel) rfl
theorem cw_Sc_taken : mm_cw M_Sc_taken 2 := ⟨mm_wat 921 (by decide +kernel) rfl, mm_wat 76 (by decide +kernel) rfl, ⟨by decide +kernel, by decide +kernel, by decide +kernel⟩, by decide⟩
theorem in_Sc_taken : Cond.instanceMethod M_Sc_taken.1 ∈ mm_G := mm_wat 919 (by decide +kernel) rfl
theorem sl_Sc_taken : Cond.selects "SchoolOnRaft" M_Sc_taken.1 M_Sc_taken.1 ∈ mm_G := mm_wat 920 (by decide +kernel) rfl
theorem cw_Sc_isUnder : mm_cw M_Sc_isUnder 2 := ⟨mm_wat 924 (by decide +kernel) rfl, mm_wat 76 (by decide +kernel) rfl, ⟨by decide +kernel, by decide +kernel, by decide +kernel⟩, by decide⟩
theorem sx_Sc_isUnder : Cond.static M_Sc_isUnder.1 ∈ mm_G := mm_wat 923 (by decide +kernel) rfl
theorem cw_Mo_init : mm_cw M_Mo_init 0 := ⟨mm_wat 934 (by decide +kernel) rfl, mm_wat 89 (by decide +kernel) rfl, ⟨by decide +kernel, by decide +kernel, by decide +kernel⟩, by decide⟩
theorem in_Mo_init : Cond.instanceMethod M_Mo_init.1 ∈ mm_G := mm_wat 933 (by decide +kernel) rfl
theorem cw_Mo_spell : mm_cw M_Mo_spell 9 := ⟨mm_wat 939 (by decide +kernel) rfl, mm_wat 89 (by decide +kernel) rfl, ⟨by decide +kernel, by decide +kernel, by decide +kernel⟩, by decide⟩
theorem in_Mo_spell : Cond.instanceMethod M_Mo_spell.1 ∈ mm_G := mm_wat 938 (by decide +kernel) rfl
theorem sl_Mo_spell : Cond.selects "SchoolOnRaftModel" M_Mo_spell.1 M_Mo_spell.1 ∈ mm_G := mm_wat 34 (by decide +kernel) rfl
theorem cw_Mo_lesson : mm_cw M_Mo_lesson 3 := ⟨mm_wat 1091 (by decide +kernel) rfl, mm_wat 89 (by decide +kernel) rfl, ⟨by decide +kernel, by decide +kernel, by decide +kernel⟩, by decide⟩
theorem in_Mo_lesson : Cond.instanceMethod M_Mo_lesson.1 ∈ mm_G := mm_wat 1089 (by decide +kernel) rfl
theorem sl_Mo_lesson : Cond.selects "SchoolOnRaftModel" M_Mo_lesson.1 M_Mo_lesson.1 ∈ mm_G := mm_wat 1090 (by decide +kernel) rfl
theorem cw_Mo_in : mm_cw M_Mo_in 3 := ⟨mm_wat 1095 (by decide +kernel) rfl, mm_wat 89 (by decide +kernel) rfl, ⟨by decide +kernel, by decide +kernel, by decide +kernel⟩, by decide⟩
theorem sx_Mo_in : Cond.static M_Mo_in.1 ∈ mm_G := mm_wat 1094 (by decide +kernel) rfl
theorem cw_Mo_child : mm_cw M_Mo_child 2 := ⟨mm_wat 1100 (by decide +kernel) rfl, mm_wat 89 (by decide +kernel) rfl, ⟨by decide +kernel, by decide +kernel, by decide +kernel⟩, by decide⟩
theorem in_Mo_child : Cond.instanceMethod M_Mo_child.1 ∈ mm_G := mm_wat 1098 (by decide +kernel) rfl
theorem sl_Mo_child : Cond.selects "SchoolOnRaftModel" M_Mo_child.1 M_Mo_child.1 ∈ mm_G := mm_wat 1099 (by decide +kernel) rfl
theorem cw_Mo_set : mm_cw M_Mo_set 3 := ⟨mm_wat 1106 (by decide +kernel) rfl, mm_wat 89 (by decide +kernel) rfl, ⟨by decide +kernel, by decide +kernel, by decide +kernel⟩, by decide⟩
theorem in_Mo_set : Cond.instanceMethod M_Mo_set.1 ∈ mm_G := mm_wat 1104 (by decide +kernel) rfl
theorem sl_Mo_set : Cond.selects "SchoolOnRaftModel" M_Mo_set.1 M_Mo_set.1 ∈ mm_G := mm_wat 1105 (by decide +kernel) rfl
theorem cw_Mo_isLesson : mm_cw M_Mo_isLesson 1 := ⟨mm_wat 1111 (by decide +kernel) rfl, mm_wat 89 (by decide +kernel) rfl, ⟨by decide +kernel, by decide +kernel, by decide +kernel⟩, by decide⟩
theorem in_Mo_isLesson : Cond.instanceMethod M_Mo_isLesson.1 ∈ mm_G := mm_wat 1110 (by decide +kernel) rfl
theorem sl_Mo_isLesson : Cond.selects "SchoolOnRaftModel" M_Mo_isLesson.1 M_Mo_isLesson.1 ∈ mm_G := mm_wat 35 (by decide +kernel) rfl
theorem cw_Mo_isChild : mm_cw M_Mo_isChild 1 := ⟨mm_wat 1115 (by decide +kernel) rfl, mm_wat 89 (by decide +kernel) rfl, ⟨by decide +kernel, by decide +kernel, by decide +kernel⟩, by decide⟩
theorem in_Mo_isChild : Cond.instanceMethod M_Mo_isChild.1 ∈ mm_G := mm_wat 1114 (by decide +kernel) rfl
theorem sl_Mo_isChild : Cond.selects "SchoolOnRaftModel" M_Mo_isChild.1 M_Mo_isChild.1 ∈ mm_G := mm_wat 36 (by decide +kernel) rfl
theorem cw_Mo_told : mm_cw M_Mo_told 2 := ⟨mm_wat 1119 (by decide +kernel) rfl, mm_wat 89 (by decide +kernel) rfl, ⟨by decide +kernel, by decide +kernel, by decide +kernel⟩, by decide⟩
theorem in_Mo_told : Cond.instanceMethod M_Mo_told.1 ∈ mm_G := mm_wat 1117 (by decide +kernel) rfl
theorem sl_Mo_told : Cond.selects "SchoolOnRaftModel" M_Mo_told.1 M_Mo_told.1 ∈ mm_G := mm_wat 1118 (by decide +kernel) rfl
theorem cw_Mo_times : mm_cw M_Mo_times 1 := ⟨mm_wat 1124 (by decide +kernel) rfl, mm_wat 89 (by decide +kernel) rfl, ⟨by decide +kernel, by decide +kernel, by decide +kernel⟩, by decide⟩
theorem in_Mo_times : Cond.instanceMethod M_Mo_times.1 ∈ mm_G := mm_wat 1123 (by decide +kernel) rfl
theorem sl_Mo_times : Cond.selects "SchoolOnRaftModel" M_Mo_times.1 M_Mo_times.1 ∈ mm_G := mm_wat 37 (by decide +kernel) rfl
theorem cw_Mo_pointsOf : mm_cw M_Mo_pointsOf 1 := ⟨mm_wat 1128 (by decide +kernel) rfl, mm_wat 89 (by decide +kernel) rfl, ⟨by decide +kernel, by decide +kernel, by decide +kernel⟩, by decide⟩
theorem in_Mo_pointsOf : Cond.instanceMethod M_Mo_pointsOf.1 ∈ mm_G := mm_wat 1127 (by decide +kernel) rfl
theorem sl_Mo_pointsOf : Cond.selects "SchoolOnRaftModel" M_Mo_pointsOf.1 M_Mo_pointsOf.1 ∈ mm_G := mm_wat 38 (by decide +kernel) rfl
theorem cw_Mo_give : mm_cw M_Mo_give 3 := ⟨mm_wat 1132 (by decide +kernel) rfl, mm_wat 89 (by decide +kernel) rfl, ⟨by decide +kernel, by decide +kernel, by decide +kernel⟩, by decide⟩
theorem in_Mo_give : Cond.instanceMethod M_Mo_give.1 ∈ mm_G := mm_wat 1130 (by decide +kernel) rfl
theorem sl_Mo_give : Cond.selects "SchoolOnRaftModel" M_Mo_give.1 M_Mo_give.1 ∈ mm_G := mm_wat 1131 (by decide +kernel) rfl
theorem cw_Mo_given : mm_cw M_Mo_given 2 := ⟨mm_wat 1136 (by decide +kernel) rfl, mm_wat 89 (by decide +kernel) rfl, ⟨by decide +kernel, by decide +kernel, by decide +kernel⟩, by decide⟩
theorem in_Mo_given : Cond.instanceMethod M_Mo_given.1 ∈ mm_G := mm_wat 1134 (by decide +kernel) rfl
theorem sl_Mo_given : Cond.selects "SchoolOnRaftModel" M_Mo_given.1 M_Mo_given.1 ∈ mm_G := mm_wat 1135 (by decide +kernel) rfl
theorem cw_Mo_feed : mm_cw M_Mo_feed 1 := ⟨mm_wat 1140 (by decide +kernel) rfl, mm_wat 89 (by decide +kernel) rfl, ⟨by decide +kernel, by decide +kernel, by decide +kernel⟩, by decide⟩
theorem in_Mo_feed : Cond.instanceMethod M_Mo_feed.1 ∈ mm_G := mm_wat 1138 (by decide +kernel) rfl
theorem sl_Mo_feed : Cond.selects "SchoolOnRaftModel" M_Mo_feed.1 M_Mo_feed.1 ∈ mm_G := mm_wat 1139 (by decide +kernel) rfl
theorem cw_Mo_text : mm_cw M_Mo_text 0 := ⟨mm_wat 1145 (by decide +kernel) rfl, mm_wat 89 (by decide +kernel) rfl, ⟨by decide +kernel, by decide +kernel, by decide +kernel⟩, by decide⟩
theorem in_Mo_text : Cond.instanceMethod M_Mo_text.1 ∈ mm_G := mm_wat 1143 (by decide +kernel) rfl
theorem sl_Mo_text : Cond.selects "SchoolOnRaftModel" M_Mo_text.1 M_Mo_text.1 ∈ mm_G := mm_wat 1144 (by decide +kernel) rfl
theorem cw_Mo_read : mm_cw M_Mo_read 2 := ⟨mm_wat 1149 (by decide +kernel) rfl, mm_wat 89 (by decide +kernel) rfl, ⟨by decide +kernel, by decide +kernel, by decide +kernel⟩, by decide⟩
theorem in_Mo_read : Cond.instanceMethod M_Mo_read.1 ∈ mm_G := mm_wat 1148 (by decide +kernel) rfl
theorem sl_Mo_read : Cond.selects "SchoolOnRaftModel" M_Mo_read.1 M_Mo_read.1 ∈ mm_G := mm_wat 39 (by decide +kernel) rfl
theorem cw_Mo_next : mm_cw M_Mo_next 0 := ⟨mm_wat 1153 (by decide +kernel) rfl, mm_wat 89 (by decide +kernel) rfl, ⟨by decide +kernel, by decide +kernel, by decide +kernel⟩, by decide⟩
theorem in_Mo_next : Cond.instanceMethod M_Mo_next.1 ∈ mm_G := mm_wat 1152 (by decide +kernel) rfl
theorem sl_Mo_next : Cond.selects "SchoolOnRaftModel" M_Mo_next.1 M_Mo_next.1 ∈ mm_G := mm_wat 40 (by decide +kernel) rfl
theorem cw_Mo_byteAt : mm_cw M_Mo_byteAt 1 := ⟨mm_wat 1157 (by decide +kernel) rfl, mm_wat 89 (by decide +kernel) rfl, ⟨by decide +kernel, by decide +kernel, by decide +kernel⟩, by decide⟩
theorem in_Mo_byteAt : Cond.instanceMethod M_Mo_byteAt.1 ∈ mm_G := mm_wat 1156 (by decide +kernel) rfl
theorem sl_Mo_byteAt : Cond.selects "SchoolOnRaftModel" M_Mo_byteAt.1 M_Mo_byteAt.1 ∈ mm_G := mm_wat 41 (by decide +kernel) rfl
theorem cw_Mo_isWord : mm_cw M_Mo_isWord 8 := ⟨mm_wat 1166 (by decide +kernel) rfl, mm_wat 89 (by decide +kernel) rfl, ⟨by decide +kernel, by decide +kernel, by decide +kernel⟩, by decide⟩
theorem in_Mo_isWord : Cond.instanceMethod M_Mo_isWord.1 ∈ mm_G := mm_wat 1165 (by decide +kernel) rfl
theorem sl_Mo_isWord : Cond.selects "SchoolOnRaftModel" M_Mo_isWord.1 M_Mo_isWord.1 ∈ mm_G := mm_wat 42 (by decide +kernel) rfl
theorem cw_Mo_isLetter : mm_cw M_Mo_isLetter 2 := ⟨mm_wat 1170 (by decide +kernel) rfl, mm_wat 89 (by decide +kernel) rfl, ⟨by decide +kernel, by decide +kernel, by decide +kernel⟩, by decide⟩
theorem in_Mo_isLetter : Cond.instanceMethod M_Mo_isLetter.1 ∈ mm_G := mm_wat 1169 (by decide +kernel) rfl
theorem sl_Mo_isLetter : Cond.selects "SchoolOnRaftModel" M_Mo_isLetter.1 M_Mo_isLetter.1 ∈ mm_G := mm_wat 43 (by decide +kernel) rfl
theorem cw_Mo_part : mm_cw M_Mo_part 1 := ⟨mm_wat 1174 (by decide +kernel) rfl, mm_wat 89 (by decide +kernel) rfl, ⟨by decide +kernel, by decide +kernel, by decide +kernel⟩, by decide⟩
theorem in_Mo_part : Cond.instanceMethod M_Mo_part.1 ∈ mm_G := mm_wat 1173 (by decide +kernel) rfl
theorem sl_Mo_part : Cond.selects "SchoolOnRaftModel" M_Mo_part.1 M_Mo_part.1 ∈ mm_G := mm_wat 44 (by decide +kernel) rfl
theorem cw_Mo_fail : mm_cw M_Mo_fail 0 := ⟨mm_wat 1178 (by decide +kernel) rfl, mm_wat 89 (by decide +kernel) rfl, ⟨by decide +kernel, by decide +kernel, by decide +kernel⟩, by decide⟩
theorem in_Mo_fail : Cond.instanceMethod M_Mo_fail.1 ∈ mm_G := mm_wat 1177 (by decide +kernel) rfl
theorem sl_Mo_fail : Cond.selects "SchoolOnRaftModel" M_Mo_fail.1 M_Mo_fail.1 ∈ mm_G := mm_wat 45 (by decide +kernel) rfl
theorem cw_Mo_either : mm_cw M_Mo_either 0 := ⟨mm_wat 1182 (by decide +kernel) rfl, mm_wat 89 (by decide +kernel) rfl, ⟨by decide +kernel, by decide +kernel, by decide +kernel⟩, by decide⟩
theorem in_Mo_either : Cond.instanceMethod M_Mo_either.1 ∈ mm_G := mm_wat 1181 (by decide +kernel) rfl
theorem sl_Mo_either : Cond.selects "SchoolOnRaftModel" M_Mo_either.1 M_Mo_either.1 ∈ mm_G := mm_wat 46 (by decide +kernel) rfl
theorem cw_Mo_both : mm_cw M_Mo_both 0 := ⟨mm_wat 1186 (by decide +kernel) rfl, mm_wat 89 (by decide +kernel) rfl, ⟨by decide +kernel, by decide +kernel, by decide +kernel⟩, by decide⟩
theorem in_Mo_both : Cond.instanceMethod M_Mo_both.1 ∈ mm_G := mm_wat 1185 (by decide +kernel) rfl
theorem sl_Mo_both : Cond.selects "SchoolOnRaftModel" M_Mo_both.1 M_Mo_both.1 ∈ mm_G := mm_wat 47 (by decide +kernel) rfl
theorem cw_Mo_not : mm_cw M_Mo_not 0 := ⟨mm_wat 1190 (by decide +kernel) rfl, mm_wat 89 (by decide +kernel) rfl, ⟨by decide +kernel, by decide +kernel, by decide +kernel⟩, by decide⟩
theorem in_Mo_not : Cond.instanceMethod M_Mo_not.1 ∈ mm_G := mm_wat 1189 (by decide +kernel) rfl
theorem sl_Mo_not : Cond.selects "SchoolOnRaftModel" M_Mo_not.1 M_Mo_not.1 ∈ mm_G := mm_wat 48 (by decide +kernel) rfl
theorem cw_Mo_opens : mm_cw M_Mo_opens 0 := ⟨mm_wat 1194 (by decide +kernel) rfl, mm_wat 89 (by decide +kernel) rfl, ⟨by decide +kernel, by decide +kernel, by decide +kernel⟩, by decide⟩
theorem in_Mo_opens : Cond.instanceMethod M_Mo_opens.1 ∈ mm_G := mm_wat 1193 (by decide +kernel) rfl
theorem sl_Mo_opens : Cond.selects "SchoolOnRaftModel" M_Mo_opens.1 M_Mo_opens.1 ∈ mm_G := mm_wat 49 (by decide +kernel) rfl
theorem cw_Mo_added : mm_cw M_Mo_added 0 := ⟨mm_wat 1198 (by decide +kernel) rfl, mm_wat 89 (by decide +kernel) rfl, ⟨by decide +kernel, by decide +kernel, by decide +kernel⟩, by decide⟩
theorem in_Mo_added : Cond.instanceMethod M_Mo_added.1 ∈ mm_G := mm_wat 1197 (by decide +kernel) rfl
theorem sl_Mo_added : Cond.selects "SchoolOnRaftModel" M_Mo_added.1 M_Mo_added.1 ∈ mm_G := mm_wat 50 (by decide +kernel) rfl
theorem cw_Mo_term : mm_cw M_Mo_term 0 := ⟨mm_wat 1202 (by decide +kernel) rfl, mm_wat 89 (by decide +kernel) rfl, ⟨by decide +kernel, by decide +kernel, by decide +kernel⟩, by decide⟩
theorem in_Mo_term : Cond.instanceMethod M_Mo_term.1 ∈ mm_G := mm_wat 1201 (by decide +kernel) rfl
theorem sl_Mo_term : Cond.selects "SchoolOnRaftModel" M_Mo_term.1 M_Mo_term.1 ∈ mm_G := mm_wat 51 (by decide +kernel) rfl
theorem cw_Mo_atom : mm_cw M_Mo_atom 0 := ⟨mm_wat 1206 (by decide +kernel) rfl, mm_wat 89 (by decide +kernel) rfl, ⟨by decide +kernel, by decide +kernel, by decide +kernel⟩, by decide⟩
theorem in_Mo_atom : Cond.instanceMethod M_Mo_atom.1 ∈ mm_G := mm_wat 1205 (by decide +kernel) rfl
theorem sl_Mo_atom : Cond.selects "SchoolOnRaftModel" M_Mo_atom.1 M_Mo_atom.1 ∈ mm_G := mm_wat 52 (by decide +kernel) rfl
theorem cw_Mo_isSign : mm_cw M_Mo_isSign 1 := ⟨mm_wat 1210 (by decide +kernel) rfl, mm_wat 89 (by decide +kernel) rfl, ⟨by decide +kernel, by decide +kernel, by decide +kernel⟩, by decide⟩
theorem in_Mo_isSign : Cond.instanceMethod M_Mo_isSign.1 ∈ mm_G := mm_wat 1209 (by decide +kernel) rfl
theorem sl_Mo_isSign : Cond.selects "SchoolOnRaftModel" M_Mo_isSign.1 M_Mo_isSign.1 ∈ mm_G := mm_wat 53 (by decide +kernel) rfl
theorem cw_Mo_name : mm_cw M_Mo_name 0 := ⟨mm_wat 1214 (by decide +kernel) rfl, mm_wat 89 (by decide +kernel) rfl, ⟨by decide +kernel, by decide +kernel, by decide +kernel⟩, by decide⟩
theorem in_Mo_name : Cond.instanceMethod M_Mo_name.1 ∈ mm_G := mm_wat 1213 (by decide +kernel) rfl
theorem sl_Mo_name : Cond.selects "SchoolOnRaftModel" M_Mo_name.1 M_Mo_name.1 ∈ mm_G := mm_wat 54 (by decide +kernel) rfl
theorem cw_Mo_force : mm_cw M_Mo_force 1 := ⟨mm_wat 1220 (by decide +kernel) rfl, mm_wat 89 (by decide +kernel) rfl, ⟨by decide +kernel, by decide +kernel, by decide +kernel⟩, by decide⟩
theorem in_Mo_force : Cond.instanceMethod M_Mo_force.1 ∈ mm_G := mm_wat 1218 (by decide +kernel) rfl
theorem sl_Mo_force : Cond.selects "SchoolOnRaftModel" M_Mo_force.1 M_Mo_force.1 ∈ mm_G := mm_wat 1219 (by decide +kernel) rfl
theorem cw_Mo_has : mm_cw M_Mo_has 2 := ⟨mm_wat 1224 (by decide +kernel) rfl, mm_wat 89 (by decide +kernel) rfl, ⟨by decide +kernel, by decide +kernel, by decide +kernel⟩, by decide⟩
theorem in_Mo_has : Cond.instanceMethod M_Mo_has.1 ∈ mm_G := mm_wat 1222 (by decide +kernel) rfl
theorem sl_Mo_has : Cond.selects "SchoolOnRaftModel" M_Mo_has.1 M_Mo_has.1 ∈ mm_G := mm_wat 1223 (by decide +kernel) rfl
theorem cw_Mo_forgets : mm_cw M_Mo_forgets 0 := ⟨mm_wat 1228 (by decide +kernel) rfl, mm_wat 89 (by decide +kernel) rfl, ⟨by decide +kernel, by decide +kernel, by decide +kernel⟩, by decide⟩
theorem in_Mo_forgets : Cond.instanceMethod M_Mo_forgets.1 ∈ mm_G := mm_wat 1227 (by decide +kernel) rfl
theorem sl_Mo_forgets : Cond.selects "SchoolOnRaftModel" M_Mo_forgets.1 M_Mo_forgets.1 ∈ mm_G := mm_wat 55 (by decide +kernel) rfl
theorem cw_Mo_takesPlan : mm_cw M_Mo_takesPlan 0 := ⟨mm_wat 1232 (by decide +kernel) rfl, mm_wat 89 (by decide +kernel) rfl, ⟨by decide +kernel, by decide +kernel, by decide +kernel⟩, by decide⟩
theorem in_Mo_takesPlan : Cond.instanceMethod M_Mo_takesPlan.1 ∈ mm_G := mm_wat 1231 (by decide +kernel) rfl
theorem sl_Mo_takesPlan : Cond.selects "SchoolOnRaftModel" M_Mo_takesPlan.1 M_Mo_takesPlan.1 ∈ mm_G := mm_wat 56 (by decide +kernel) rfl
theorem cw_Mo_spring : mm_cw M_Mo_spring 3 := ⟨mm_wat 1236 (by decide +kernel) rfl, mm_wat 89 (by decide +kernel) rfl, ⟨by decide +kernel, by decide +kernel, by decide +kernel⟩, by decide⟩
theorem in_Mo_spring : Cond.instanceMethod M_Mo_spring.1 ∈ mm_G := mm_wat 1235 (by decide +kernel) rfl
theorem sl_Mo_spring : Cond.selects "SchoolOnRaftModel" M_Mo_spring.1 M_Mo_spring.1 ∈ mm_G := mm_wat 57 (by decide +kernel) rfl
theorem cw_Mo_begins : mm_cw M_Mo_begins 0 := ⟨mm_wat 1240 (by decide +kernel) rfl, mm_wat 89 (by decide +kernel) rfl, ⟨by decide +kernel, by decide +kernel, by decide +kernel⟩, by decide⟩
theorem in_Mo_begins : Cond.instanceMethod M_Mo_begins.1 ∈ mm_G := mm_wat 1239 (by decide +kernel) rfl
theorem sl_Mo_begins : Cond.selects "SchoolOnRaftModel" M_Mo_begins.1 M_Mo_begins.1 ∈ mm_G := mm_wat 58 (by decide +kernel) rfl
theorem cw_Mo_passes : mm_cw M_Mo_passes 4 := ⟨mm_wat 1244 (by decide +kernel) rfl, mm_wat 89 (by decide +kernel) rfl, ⟨by decide +kernel, by decide +kernel, by decide +kernel⟩, by decide⟩
theorem in_Mo_passes : Cond.instanceMethod M_Mo_passes.1 ∈ mm_G := mm_wat 1243 (by decide +kernel) rfl
theorem sl_Mo_passes : Cond.selects "SchoolOnRaftModel" M_Mo_passes.1 M_Mo_passes.1 ∈ mm_G := mm_wat 59 (by decide +kernel) rfl
theorem cw_Mo_hasBy : mm_cw M_Mo_hasBy 2 := ⟨mm_wat 1248 (by decide +kernel) rfl, mm_wat 89 (by decide +kernel) rfl, ⟨by decide +kernel, by decide +kernel, by decide +kernel⟩, by decide⟩
theorem in_Mo_hasBy : Cond.instanceMethod M_Mo_hasBy.1 ∈ mm_G := mm_wat 1247 (by decide +kernel) rfl
theorem sl_Mo_hasBy : Cond.selects "SchoolOnRaftModel" M_Mo_hasBy.1 M_Mo_hasBy.1 ∈ mm_G := mm_wat 60 (by decide +kernel) rfl
theorem cw_Mo_keeps : mm_cw M_Mo_keeps 2 := ⟨mm_wat 1252 (by decide +kernel) rfl, mm_wat 89 (by decide +kernel) rfl, ⟨by decide +kernel, by decide +kernel, by decide +kernel⟩, by decide⟩
theorem in_Mo_keeps : Cond.instanceMethod M_Mo_keeps.1 ∈ mm_G := mm_wat 1251 (by decide +kernel) rfl
theorem sl_Mo_keeps : Cond.selects "SchoolOnRaftModel" M_Mo_keeps.1 M_Mo_keeps.1 ∈ mm_G := mm_wat 61 (by decide +kernel) rfl
theorem cw_Mo_bitsOf : mm_cw M_Mo_bitsOf 1 := ⟨mm_wat 1255 (by decide +kernel) rfl, mm_wat 89 (by decide +kernel) rfl, ⟨by decide +kernel, by decide +kernel, by decide +kernel⟩, by decide⟩
theorem sx_Mo_bitsOf : Cond.static M_Mo_bitsOf.1 ∈ mm_G := mm_wat 1254 (by decide +kernel) rfl
theorem cw_Mo_hears : mm_cw M_Mo_hears 5 := ⟨mm_wat 1259 (by decide +kernel) rfl, mm_wat 89 (by decide +kernel) rfl, ⟨by decide +kernel, by decide +kernel, by decide +kernel⟩, by decide⟩
theorem in_Mo_hears : Cond.instanceMethod M_Mo_hears.1 ∈ mm_G := mm_wat 1258 (by decide +kernel) rfl
theorem sl_Mo_hears : Cond.selects "SchoolOnRaftModel" M_Mo_hears.1 M_Mo_hears.1 ∈ mm_G := mm_wat 62 (by decide +kernel) rfl
theorem cw_Mo_says : mm_cw M_Mo_says 6 := ⟨mm_wat 1263 (by decide +kernel) rfl, mm_wat 89 (by decide +kernel) rfl, ⟨by decide +kernel, by decide +kernel, by decide +kernel⟩, by decide⟩
theorem in_Mo_says : Cond.instanceMethod M_Mo_says.1 ∈ mm_G := mm_wat 1262 (by decide +kernel) rfl
theorem sl_Mo_says : Cond.selects "SchoolOnRaftModel" M_Mo_says.1 M_Mo_says.1 ∈ mm_G := mm_wat 63 (by decide +kernel) rfl
theorem cw_Mo_heard : mm_cw M_Mo_heard 3 := ⟨mm_wat 1267 (by decide +kernel) rfl, mm_wat 89 (by decide +kernel) rfl, ⟨by decide +kernel, by decide +kernel, by decide +kernel⟩, by decide⟩
theorem in_Mo_heard : Cond.instanceMethod M_Mo_heard.1 ∈ mm_G := mm_wat 1265 (by decide +kernel) rfl
theorem sl_Mo_heard : Cond.selects "SchoolOnRaftModel" M_Mo_heard.1 M_Mo_heard.1 ∈ mm_G := mm_wat 1266 (by decide +kernel) rfl
theorem cw_Mo_points : mm_cw M_Mo_points 1 := ⟨mm_wat 1271 (by decide +kernel) rfl, mm_wat 89 (by decide +kernel) rfl, ⟨by decide +kernel, by decide +kernel, by decide +kernel⟩, by decide⟩
theorem in_Mo_points : Cond.instanceMethod M_Mo_points.1 ∈ mm_G := mm_wat 1269 (by decide +kernel) rfl
theorem sl_Mo_points : Cond.selects "SchoolOnRaftModel" M_Mo_points.1 M_Mo_points.1 ∈ mm_G := mm_wat 1270 (by decide +kernel) rfl
theorem cw_Mo_allPoints : mm_cw M_Mo_allPoints 0 := ⟨mm_wat 1275 (by decide +kernel) rfl, mm_wat 89 (by decide +kernel) rfl, ⟨by decide +kernel, by decide +kernel, by decide +kernel⟩, by decide⟩
theorem in_Mo_allPoints : Cond.instanceMethod M_Mo_allPoints.1 ∈ mm_G := mm_wat 1274 (by decide +kernel) rfl
theorem sl_Mo_allPoints : Cond.selects "SchoolOnRaftModel" M_Mo_allPoints.1 M_Mo_allPoints.1 ∈ mm_G := mm_wat 64 (by decide +kernel) rfl
theorem cw_Mo_pointsBy : mm_cw M_Mo_pointsBy 1 := ⟨mm_wat 1279 (by decide +kernel) rfl, mm_wat 89 (by decide +kernel) rfl, ⟨by decide +kernel, by decide +kernel, by decide +kernel⟩, by decide⟩
theorem in_Mo_pointsBy : Cond.instanceMethod M_Mo_pointsBy.1 ∈ mm_G := mm_wat 1278 (by decide +kernel) rfl
theorem sl_Mo_pointsBy : Cond.selects "SchoolOnRaftModel" M_Mo_pointsBy.1 M_Mo_pointsBy.1 ∈ mm_G := mm_wat 65 (by decide +kernel) rfl
theorem cw_Mo_endPoints : mm_cw M_Mo_endPoints 1 := ⟨mm_wat 1283 (by decide +kernel) rfl, mm_wat 89 (by decide +kernel) rfl, ⟨by decide +kernel, by decide +kernel, by decide +kernel⟩, by decide⟩
theorem in_Mo_endPoints : Cond.instanceMethod M_Mo_endPoints.1 ∈ mm_G := mm_wat 1282 (by decide +kernel) rfl
theorem sl_Mo_endPoints : Cond.selects "SchoolOnRaftModel" M_Mo_endPoints.1 M_Mo_endPoints.1 ∈ mm_G := mm_wat 66 (by decide +kernel) rfl
theorem cw_Mo_worth : mm_cw M_Mo_worth 4 := ⟨mm_wat 1287 (by decide +kernel) rfl, mm_wat 89 (by decide +kernel) rfl, ⟨by decide +kernel, by decide +kernel, by decide +kernel⟩, by decide⟩
theorem in_Mo_worth : Cond.instanceMethod M_Mo_worth.1 ∈ mm_G := mm_wat 1286 (by decide +kernel) rfl
theorem sl_Mo_worth : Cond.selects "SchoolOnRaftModel" M_Mo_worth.1 M_Mo_worth.1 ∈ mm_G := mm_wat 67 (by decide +kernel) rfl
theorem cw_Mo_within : mm_cw M_Mo_within 3 := ⟨mm_wat 1290 (by decide +kernel) rfl, mm_wat 89 (by decide +kernel) rfl, ⟨by decide +kernel, by decide +kernel, by decide +kernel⟩, by decide⟩
theorem sx_Mo_within : Cond.static M_Mo_within.1 ∈ mm_G := mm_wat 1289 (by decide +kernel) rfl
theorem cw_Mo_best : mm_cw M_Mo_best 1 := ⟨mm_wat 1294 (by decide +kernel) rfl, mm_wat 89 (by decide +kernel) rfl, ⟨by decide +kernel, by decide +kernel, by decide +kernel⟩, by decide⟩
theorem in_Mo_best : Cond.instanceMethod M_Mo_best.1 ∈ mm_G := mm_wat 1292 (by decide +kernel) rfl
theorem sl_Mo_best : Cond.selects "SchoolOnRaftModel" M_Mo_best.1 M_Mo_best.1 ∈ mm_G := mm_wat 1293 (by decide +kernel) rfl
theorem cw_Mo_seeks : mm_cw M_Mo_seeks 0 := ⟨mm_wat 1299 (by decide +kernel) rfl, mm_wat 89 (by decide +kernel) rfl, ⟨by decide +kernel, by decide +kernel, by decide +kernel⟩, by decide⟩
theorem in_Mo_seeks : Cond.instanceMethod M_Mo_seeks.1 ∈ mm_G := mm_wat 1298 (by decide +kernel) rfl
theorem sl_Mo_seeks : Cond.selects "SchoolOnRaftModel" M_Mo_seeks.1 M_Mo_seeks.1 ∈ mm_G := mm_wat 68 (by decide +kernel) rfl
theorem cw_Mo_adds : mm_cw M_Mo_adds 3 := ⟨mm_wat 1303 (by decide +kernel) rfl, mm_wat 89 (by decide +kernel) rfl, ⟨by decide +kernel, by decide +kernel, by decide +kernel⟩, by decide⟩
theorem in_Mo_adds : Cond.instanceMethod M_Mo_adds.1 ∈ mm_G := mm_wat 1302 (by decide +kernel) rfl
theorem sl_Mo_adds : Cond.selects "SchoolOnRaftModel" M_Mo_adds.1 M_Mo_adds.1 ∈ mm_G := mm_wat 69 (by decide +kernel) rfl
theorem cw_Mo_lay : mm_cw M_Mo_lay 0 := ⟨mm_wat 1307 (by decide +kernel) rfl, mm_wat 89 (by decide +kernel) rfl, ⟨by decide +kernel, by decide +kernel, by decide +kernel⟩, by decide⟩
theorem in_Mo_lay : Cond.instanceMethod M_Mo_lay.1 ∈ mm_G := mm_wat 1305 (by decide +kernel) rfl
theorem sl_Mo_lay : Cond.selects "SchoolOnRaftModel" M_Mo_lay.1 M_Mo_lay.1 ∈ mm_G := mm_wat 1306 (by decide +kernel) rfl
theorem cw_Mo_run : mm_cw M_Mo_run 3 := ⟨mm_wat 1311 (by decide +kernel) rfl, mm_wat 89 (by decide +kernel) rfl, ⟨by decide +kernel, by decide +kernel, by decide +kernel⟩, by decide⟩
theorem in_Mo_run : Cond.instanceMethod M_Mo_run.1 ∈ mm_G := mm_wat 1309 (by decide +kernel) rfl
theorem sl_Mo_run : Cond.selects "SchoolOnRaftModel" M_Mo_run.1 M_Mo_run.1 ∈ mm_G := mm_wat 1310 (by decide +kernel) rfl
theorem cw_Mo_twice : mm_cw M_Mo_twice 2 := ⟨mm_wat 1316 (by decide +kernel) rfl, mm_wat 89 (by decide +kernel) rfl, ⟨by decide +kernel, by decide +kernel, by decide +kernel⟩, by decide⟩
theorem in_Mo_twice : Cond.instanceMethod M_Mo_twice.1 ∈ mm_G := mm_wat 1314 (by decide +kernel) rfl
theorem sl_Mo_twice : Cond.selects "SchoolOnRaftModel" M_Mo_twice.1 M_Mo_twice.1 ∈ mm_G := mm_wat 1315 (by decide +kernel) rfl
theorem cw_Mo_change : mm_cw M_Mo_change 2 := ⟨mm_wat 1320 (by decide +kernel) rfl, mm_wat 89 (by decide +kernel) rfl, ⟨by decide +kernel, by decide +kernel, by decide +kernel⟩, by decide⟩
theorem in_Mo_change : Cond.instanceMethod M_Mo_change.1 ∈ mm_G := mm_wat 1318 (by decide +kernel) rfl
theorem sl_Mo_change : Cond.selects "SchoolOnRaftModel" M_Mo_change.1 M_Mo_change.1 ∈ mm_G := mm_wat 1319 (by decide +kernel) rfl
theorem cw_Mo_changeAt : mm_cw M_Mo_changeAt 2 := ⟨mm_wat 1324 (by decide +kernel) rfl, mm_wat 89 (by decide +kernel) rfl, ⟨by decide +kernel, by decide +kernel, by decide +kernel⟩, by decide⟩
theorem in_Mo_changeAt : Cond.instanceMethod M_Mo_changeAt.1 ∈ mm_G := mm_wat 1323 (by decide +kernel) rfl
theorem sl_Mo_changeAt : Cond.selects "SchoolOnRaftModel" M_Mo_changeAt.1 M_Mo_changeAt.1 ∈ mm_G := mm_wat 70 (by decide +kernel) rfl
theorem cw_Mo_exam : mm_cw M_Mo_exam 2 := ⟨mm_wat 1328 (by decide +kernel) rfl, mm_wat 89 (by decide +kernel) rfl, ⟨by decide +kernel, by decide +kernel, by decide +kernel⟩, by decide⟩
theorem in_Mo_exam : Cond.instanceMethod M_Mo_exam.1 ∈ mm_G := mm_wat 1326 (by decide +kernel) rfl
theorem sl_Mo_exam : Cond.selects "SchoolOnRaftModel" M_Mo_exam.1 M_Mo_exam.1 ∈ mm_G := mm_wat 1327 (by decide +kernel) rfl
theorem cw_Mo_examBad : mm_cw M_Mo_examBad 2 := ⟨mm_wat 1332 (by decide +kernel) rfl, mm_wat 89 (by decide +kernel) rfl, ⟨by decide +kernel, by decide +kernel, by decide +kernel⟩, by decide⟩
theorem in_Mo_examBad : Cond.instanceMethod M_Mo_examBad.1 ∈ mm_G := mm_wat 1331 (by decide +kernel) rfl
theorem sl_Mo_examBad : Cond.selects "SchoolOnRaftModel" M_Mo_examBad.1 M_Mo_examBad.1 ∈ mm_G := mm_wat 71 (by decide +kernel) rfl
theorem cw_Mo_isSheet : mm_cw M_Mo_isSheet 1 := ⟨mm_wat 1335 (by decide +kernel) rfl, mm_wat 89 (by decide +kernel) rfl, ⟨by decide +kernel, by decide +kernel, by decide +kernel⟩, by decide⟩
theorem sx_Mo_isSheet : Cond.static M_Mo_isSheet.1 ∈ mm_G := mm_wat 1334 (by decide +kernel) rfl
theorem cw_Mo_unlike : mm_cw M_Mo_unlike 1 := ⟨mm_wat 1340 (by decide +kernel) rfl, mm_wat 89 (by decide +kernel) rfl, ⟨by decide +kernel, by decide +kernel, by decide +kernel⟩, by decide⟩
theorem in_Mo_unlike : Cond.instanceMethod M_Mo_unlike.1 ∈ mm_G := mm_wat 1339 (by decide +kernel) rfl
theorem sl_Mo_unlike : Cond.selects "SchoolOnRaftModel" M_Mo_unlike.1 M_Mo_unlike.1 ∈ mm_G := mm_wat 72 (by decide +kernel) rfl
theorem cw_Mo_aboard : mm_cw M_Mo_aboard 3 := ⟨mm_wat 1344 (by decide +kernel) rfl, mm_wat 89 (by decide +kernel) rfl, ⟨by decide +kernel, by decide +kernel, by decide +kernel⟩, by decide⟩
theorem in_Mo_aboard : Cond.instanceMethod M_Mo_aboard.1 ∈ mm_G := mm_wat 1342 (by decide +kernel) rfl
theorem sl_Mo_aboard : Cond.selects "SchoolOnRaftModel" M_Mo_aboard.1 M_Mo_aboard.1 ∈ mm_G := mm_wat 1343 (by decide +kernel) rfl
theorem cw_Mo_together : mm_cw M_Mo_together 1 := ⟨mm_wat 1348 (by decide +kernel) rfl, mm_wat 89 (by decide +kernel) rfl, ⟨by decide +kernel, by decide +kernel, by decide +kernel⟩, by decide⟩
theorem in_Mo_together : Cond.instanceMethod M_Mo_together.1 ∈ mm_G := mm_wat 1346 (by decide +kernel) rfl
theorem sl_Mo_together : Cond.selects "SchoolOnRaftModel" M_Mo_together.1 M_Mo_together.1 ∈ mm_G := mm_wat 1347 (by decide +kernel) rfl
theorem cw_Mo_allHave : mm_cw M_Mo_allHave 0 := ⟨mm_wat 1352 (by decide +kernel) rfl, mm_wat 89 (by decide +kernel) rfl, ⟨by decide +kernel, by decide +kernel, by decide +kernel⟩, by decide⟩
theorem in_Mo_allHave : Cond.instanceMethod M_Mo_allHave.1 ∈ mm_G := mm_wat 1351 (by decide +kernel) rfl
theorem sl_Mo_allHave : Cond.selects "SchoolOnRaftModel" M_Mo_allHave.1 M_Mo_allHave.1 ∈ mm_G := mm_wat 73 (by decide +kernel) rfl
theorem cw_Mo_known : mm_cw M_Mo_known 1 := ⟨mm_wat 1356 (by decide +kernel) rfl, mm_wat 89 (by decide +kernel) rfl, ⟨by decide +kernel, by decide +kernel, by decide +kernel⟩, by decide⟩
theorem in_Mo_known : Cond.instanceMethod M_Mo_known.1 ∈ mm_G := mm_wat 1354 (by decide +kernel) rfl
theorem sl_Mo_known : Cond.selects "SchoolOnRaftModel" M_Mo_known.1 M_Mo_known.1 ∈ mm_G := mm_wat 1355 (by decide +kernel) rfl
theorem cw_Mo_drawn : mm_cw M_Mo_drawn 2 := ⟨mm_wat 1360 (by decide +kernel) rfl, mm_wat 89 (by decide +kernel) rfl, ⟨by decide +kernel, by decide +kernel, by decide +kernel⟩, by decide⟩
theorem in_Mo_drawn : Cond.instanceMethod M_Mo_drawn.1 ∈ mm_G := mm_wat 1358 (by decide +kernel) rfl
theorem sl_Mo_drawn : Cond.selects "SchoolOnRaftModel" M_Mo_drawn.1 M_Mo_drawn.1 ∈ mm_G := mm_wat 1359 (by decide +kernel) rfl
theorem cw_Mo_floods : mm_cw M_Mo_floods 2 := ⟨mm_wat 1364 (by decide +kernel) rfl, mm_wat 89 (by decide +kernel) rfl, ⟨by decide +kernel, by decide +kernel, by decide +kernel⟩, by decide⟩
theorem in_Mo_floods : Cond.instanceMethod M_Mo_floods.1 ∈ mm_G := mm_wat 1363 (by decide +kernel) rfl
theorem sl_Mo_floods : Cond.selects "SchoolOnRaftModel" M_Mo_floods.1 M_Mo_floods.1 ∈ mm_G := mm_wat 74 (by decide +kernel) rfl
theorem cw_Mo_chance : mm_cw M_Mo_chance 5 := ⟨mm_wat 1369 (by decide +kernel) rfl, mm_wat 89 (by decide +kernel) rfl, ⟨by decide +kernel, by decide +kernel, by decide +kernel⟩, by decide⟩
theorem in_Mo_chance : Cond.instanceMethod M_Mo_chance.1 ∈ mm_G := mm_wat 1367 (by decide +kernel) rfl
theorem sl_Mo_chance : Cond.selects "SchoolOnRaftModel" M_Mo_chance.1 M_Mo_chance.1 ∈ mm_G := mm_wat 1368 (by decide +kernel) rfl
theorem cw_Mo_image : mm_cw M_Mo_image 0 := ⟨mm_wat 1375 (by decide +kernel) rfl, mm_wat 89 (by decide +kernel) rfl, ⟨by decide +kernel, by decide +kernel, by decide +kernel⟩, by decide⟩
theorem in_Mo_image : Cond.instanceMethod M_Mo_image.1 ∈ mm_G := mm_wat 1373 (by decide +kernel) rfl
theorem sl_Mo_image : Cond.selects "SchoolOnRaftModel" M_Mo_image.1 M_Mo_image.1 ∈ mm_G := mm_wat 1374 (by decide +kernel) rfl
theorem cw_Mo_back : mm_cw M_Mo_back 0 := ⟨mm_wat 1379 (by decide +kernel) rfl, mm_wat 89 (by decide +kernel) rfl, ⟨by decide +kernel, by decide +kernel, by decide +kernel⟩, by decide⟩
theorem in_Mo_back : Cond.instanceMethod M_Mo_back.1 ∈ mm_G := mm_wat 1377 (by decide +kernel) rfl
theorem sl_Mo_back : Cond.selects "SchoolOnRaftModel" M_Mo_back.1 M_Mo_back.1 ∈ mm_G := mm_wat 1378 (by decide +kernel) rfl
theorem cw_Mo_count : mm_cw M_Mo_count 1 := ⟨mm_wat 1383 (by decide +kernel) rfl, mm_wat 89 (by decide +kernel) rfl, ⟨by decide +kernel, by decide +kernel, by decide +kernel⟩, by decide⟩
theorem in_Mo_count : Cond.instanceMethod M_Mo_count.1 ∈ mm_G := mm_wat 1381 (by decide +kernel) rfl
theorem sl_Mo_count : Cond.selects "SchoolOnRaftModel" M_Mo_count.1 M_Mo_count.1 ∈ mm_G := mm_wat 1382 (by decide +kernel) rfl
theorem cw_Mo_sheet : mm_cw M_Mo_sheet 3 := ⟨mm_wat 1387 (by decide +kernel) rfl, mm_wat 89 (by decide +kernel) rfl, ⟨by decide +kernel, by decide +kernel, by decide +kernel⟩, by decide⟩
theorem in_Mo_sheet : Cond.instanceMethod M_Mo_sheet.1 ∈ mm_G := mm_wat 1385 (by decide +kernel) rfl
theorem sl_Mo_sheet : Cond.selects "SchoolOnRaftModel" M_Mo_sheet.1 M_Mo_sheet.1 ∈ mm_G := mm_wat 1386 (by decide +kernel) rfl
theorem cw_Mo_cell : mm_cw M_Mo_cell 3 := ⟨mm_wat 1392 (by decide +kernel) rfl, mm_wat 89 (by decide +kernel) rfl, ⟨by decide +kernel, by decide +kernel, by decide +kernel⟩, by decide⟩
theorem in_Mo_cell : Cond.instanceMethod M_Mo_cell.1 ∈ mm_G := mm_wat 1390 (by decide +kernel) rfl
theorem sl_Mo_cell : Cond.selects "SchoolOnRaftModel" M_Mo_cell.1 M_Mo_cell.1 ∈ mm_G := mm_wat 1391 (by decide +kernel) rfl
theorem cw_Mo_copy : mm_cw M_Mo_copy 5 := ⟨mm_wat 1396 (by decide +kernel) rfl, mm_wat 89 (by decide +kernel) rfl, ⟨by decide +kernel, by decide +kernel, by decide +kernel⟩, by decide⟩
theorem in_Mo_copy : Cond.instanceMethod M_Mo_copy.1 ∈ mm_G := mm_wat 1394 (by decide +kernel) rfl
theorem sl_Mo_copy : Cond.selects "SchoolOnRaftModel" M_Mo_copy.1 M_Mo_copy.1 ∈ mm_G := mm_wat 1395 (by decide +kernel) rfl
theorem cw_Mo_children : mm_cw M_Mo_children 4 := ⟨mm_wat 1400 (by decide +kernel) rfl, mm_wat 89 (by decide +kernel) rfl, ⟨by decide +kernel, by decide +kernel, by decide +kernel⟩, by decide⟩
theorem in_Mo_children : Cond.instanceMethod M_Mo_children.1 ∈ mm_G := mm_wat 1398 (by decide +kernel) rfl
theorem sl_Mo_children : Cond.selects "SchoolOnRaftModel" M_Mo_children.1 M_Mo_children.1 ∈ mm_G := mm_wat 1399 (by decide +kernel) rfl
theorem cw_Mo_taken : mm_cw M_Mo_taken 2 := ⟨mm_wat 1405 (by decide +kernel) rfl, mm_wat 89 (by decide +kernel) rfl, ⟨by decide +kernel, by decide +kernel, by decide +kernel⟩, by decide⟩
theorem in_Mo_taken : Cond.instanceMethod M_Mo_taken.1 ∈ mm_G := mm_wat 1403 (by decide +kernel) rfl
theorem sl_Mo_taken : Cond.selects "SchoolOnRaftModel" M_Mo_taken.1 M_Mo_taken.1 ∈ mm_G := mm_wat 1404 (by decide +kernel) rfl
theorem cw_Mo_over : mm_cw M_Mo_over 1 := ⟨mm_wat 1408 (by decide +kernel) rfl, mm_wat 89 (by decide +kernel) rfl, ⟨by decide +kernel, by decide +kernel, by decide +kernel⟩, by decide⟩
theorem sx_Mo_over : Cond.static M_Mo_over.1 ∈ mm_G := mm_wat 1407 (by decide +kernel) rfl
theorem sl_Hk_Kd_times_Hk_times : Cond.selects "SchoolOnRaft$HardKind" M_Kd_times.1 M_Hk_times.1 ∈ mm_G := mm_wat 436 (by decide +kernel) rfl
theorem sl_Li_Kd_times_Kd_times : Cond.selects "SchoolOnRaft$LightKind" M_Kd_times.1 M_Kd_times.1 ∈ mm_G := mm_wat 443 (by decide +kernel) rfl
theorem sl_Lo_Kd_times_Lo_times : Cond.selects "SchoolOnRaft$LongKind" M_Kd_times.1 M_Lo_times.1 ∈ mm_G := mm_wat 444 (by decide +kernel) rfl
theorem sl_Pk_Kd_times_Lo_times : Cond.selects "SchoolOnRaft$ProofKind" M_Kd_times.1 M_Lo_times.1 ∈ mm_G := mm_wat 445 (by decide +kernel) rfl
theorem sl_So_Kd_times_So_times : Cond.selects "SchoolOnRaft$SongKind" M_Kd_times.1 M_So_times.1 ∈ mm_G := mm_wat 446 (by decide +kernel) rfl
theorem sl_Hk_Kd_value_Hk_value : Cond.selects "SchoolOnRaft$HardKind" M_Kd_value.1 M_Hk_value.1 ∈ mm_G := mm_wat 457 (by decide +kernel) rfl
theorem sl_Li_Kd_value_Li_value : Cond.selects "SchoolOnRaft$LightKind" M_Kd_value.1 M_Li_value.1 ∈ mm_G := mm_wat 464 (by decide +kernel) rfl
theorem sl_Lo_Kd_value_Lo_value : Cond.selects "SchoolOnRaft$LongKind" M_Kd_value.1 M_Lo_value.1 ∈ mm_G := mm_wat 468 (by decide +kernel) rfl
theorem sl_Pk_Kd_value_Pk_value : Cond.selects "SchoolOnRaft$ProofKind" M_Kd_value.1 M_Pk_value.1 ∈ mm_G := mm_wat 469 (by decide +kernel) rfl
theorem sl_So_Kd_value_So_value : Cond.selects "SchoolOnRaft$SongKind" M_Kd_value.1 M_So_value.1 ∈ mm_G := mm_wat 473 (by decide +kernel) rfl
theorem sl_Hk_Kd_keeps_Hk_keeps : Cond.selects "SchoolOnRaft$HardKind" M_Kd_keeps.1 M_Hk_keeps.1 ∈ mm_G := mm_wat 674 (by decide +kernel) rfl
theorem sl_Li_Kd_keeps_Li_keeps : Cond.selects "SchoolOnRaft$LightKind" M_Kd_keeps.1 M_Li_keeps.1 ∈ mm_G := mm_wat 680 (by decide +kernel) rfl
theorem sl_Lo_Kd_keeps_Kd_keeps : Cond.selects "SchoolOnRaft$LongKind" M_Kd_keeps.1 M_Kd_keeps.1 ∈ mm_G := mm_wat 683 (by decide +kernel) rfl
theorem sl_Pk_Kd_keeps_Kd_keeps : Cond.selects "SchoolOnRaft$ProofKind" M_Kd_keeps.1 M_Kd_keeps.1 ∈ mm_G := mm_wat 684 (by decide +kernel) rfl
theorem sl_So_Kd_keeps_So_keeps : Cond.selects "SchoolOnRaft$SongKind" M_Kd_keeps.1 M_So_keeps.1 ∈ mm_G := mm_wat 685 (by decide +kernel) rfl
theorem lk_Sc_1 : Cond.methodLink "SchoolOnRaft" 1 Lib.objectInit ∈ mm_G := mm_wat 102 (by decide +kernel) rfl
theorem lk_Sc_9 : Cond.methodLink "SchoolOnRaft" 9 M_Sp_init.1 ∈ mm_G := mm_wat 107 (by decide +kernel) rfl
theorem lk_Sc_32 : Cond.methodLink "SchoolOnRaft" 32 M_Bo_init.1 ∈ mm_G := mm_wat 330 (by decide +kernel) rfl
theorem lk_Sc_59 : Cond.methodLink "SchoolOnRaft" 59 M_Ar_fill.1 ∈ mm_G := mm_wat 333 (by decide +kernel) rfl
theorem lk_Sc_68 : Cond.methodLink "SchoolOnRaft" 68 M_Sc_isKind.1 ∈ mm_G := mm_wat 369 (by decide +kernel) rfl
theorem lk_Sc_72 : Cond.methodLink "SchoolOnRaft" 72 M_Sc_isNumber.1 ∈ mm_G := mm_wat 372 (by decide +kernel) rfl
theorem lk_Sc_79 : Cond.methodLink "SchoolOnRaft" 79 M_Sc_areLessons.1 ∈ mm_G := mm_wat 375 (by decide +kernel) rfl
theorem lk_Sc_83 : Cond.methodLink "SchoolOnRaft" 83 M_Se_forget.1 ∈ mm_G := mm_wat 378 (by decide +kernel) rfl
theorem lk_Sc_86 : Cond.methodLink "SchoolOnRaft" 86 M_Bo_addLesson.1 ∈ mm_G := mm_wat 382 (by decide +kernel) rfl
theorem lk_Sc_90 : Cond.methodLink "SchoolOnRaft" 90 M_Sc_bring.1 ∈ mm_G := mm_wat 390 (by decide +kernel) rfl
theorem lk_Sc_94 : Cond.methodLink "SchoolOnRaft" 94 M_Sc_maySet.1 ∈ mm_G := mm_wat 408 (by decide +kernel) rfl
theorem lk_Sc_98 : Cond.methodLink "SchoolOnRaft" 98 M_Sc_settable.1 ∈ mm_G := mm_wat 420 (by decide +kernel) rfl
theorem lk_Sc_102 : Cond.methodLink "SchoolOnRaft" 102 M_Sc_isLesson.1 ∈ mm_G := mm_wat 412 (by decide +kernel) rfl
theorem lk_Sc_105 : Cond.methodLink "SchoolOnRaft" 105 M_Sc_isChild.1 ∈ mm_G := mm_wat 416 (by decide +kernel) rfl
theorem lk_Sc_117 : Cond.methodLink "SchoolOnRaft" 117 M_Sp_kindOf.1 ∈ mm_G := mm_wat 428 (by decide +kernel) rfl
theorem lk_Sc_121 : Cond.methodLink "SchoolOnRaft" 121 M_Kd_times.1 ∈ mm_G := mm_wat 432 (by decide +kernel) rfl
theorem lk_Sc_127 : Cond.methodLink "SchoolOnRaft" 127 M_Kd_value.1 ∈ mm_G := mm_wat 453 (by decide +kernel) rfl
theorem lk_Sc_139 : Cond.methodLink "SchoolOnRaft" 139 M_Sc_isRaft.1 ∈ mm_G := mm_wat 482 (by decide +kernel) rfl
theorem lk_Sc_142 : Cond.methodLink "SchoolOnRaft" 142 M_Sc_isBend.1 ∈ mm_G := mm_wat 394 (by decide +kernel) rfl
theorem lk_Sc_145 : Cond.methodLink "SchoolOnRaft" 145 M_Sc_planOf.1 ∈ mm_G := mm_wat 485 (by decide +kernel) rfl
theorem lk_Sc_157 : Cond.methodLink "SchoolOnRaft" 157 M_Re_read.1 ∈ mm_G := mm_wat 501 (by decide +kernel) rfl
theorem lk_Sc_171 : Cond.methodLink "SchoolOnRaft" 171 M_Sp_ownedBehind.1 ∈ mm_G := mm_wat 653 (by decide +kernel) rfl
end
section
theorem lk_Sc_178 : Cond.methodLink "SchoolOnRaft" 178 M_Sp_memoryOf.1 ∈ mm_G := mm_wat 727 (by decide +kernel) rfl
theorem lk_Sc_182 : Cond.methodLink "SchoolOnRaft" 182 M_Sp_timesHeard.1 ∈ mm_G := mm_wat 728 (by decide +kernel) rfl
theorem lk_Sc_185 : Cond.methodLink "SchoolOnRaft" 185 M_Sp_lastUnderstood.1 ∈ mm_G := mm_wat 729 (by decide +kernel) rfl
theorem lk_Sc_188 : Cond.methodLink "SchoolOnRaft" 188 M_Sc_pointsOfAll.1 ∈ mm_G := mm_wat 734 (by decide +kernel) rfl
theorem lk_Sc_192 : Cond.methodLink "SchoolOnRaft" 192 M_Sp_pointsOf.1 ∈ mm_G := mm_wat 738 (by decide +kernel) rfl
theorem lk_Sc_196 : Cond.methodLink "SchoolOnRaft" 196 M_Se_find.1 ∈ mm_G := mm_wat 754 (by decide +kernel) rfl
theorem lk_Sc_206 : Cond.methodLink "SchoolOnRaft" 206 arraycopyName ∈ mm_G := mm_wat 786 (by decide +kernel) rfl
theorem lk_Sc_212 : Cond.methodLink "SchoolOnRaft" 212 M_Sp_owned.1 ∈ mm_G := mm_wat 791 (by decide +kernel) rfl
theorem lk_Sc_215 : Cond.methodLink "SchoolOnRaft" 215 M_Sc_costOf.1 ∈ mm_G := mm_wat 792 (by decide +kernel) rfl
theorem lk_Sc_218 : Cond.methodLink "SchoolOnRaft" 218 M_Sc_pointsChanging.1 ∈ mm_G := mm_wat 808 (by decide +kernel) rfl
theorem lk_Sc_221 : Cond.methodLink "SchoolOnRaft" 221 M_Sc_refusalOfExam.1 ∈ mm_G := mm_wat 816 (by decide +kernel) rfl
theorem lk_Sc_224 : Cond.methodLink "SchoolOnRaft" 224 M_Sp_firstUnlike.1 ∈ mm_G := mm_wat 823 (by decide +kernel) rfl
theorem lk_Sc_231 : Cond.methodLink "SchoolOnRaft" 231 M_Sc_ownedAtEnd.1 ∈ mm_G := mm_wat 836 (by decide +kernel) rfl
theorem lk_Sc_234 : Cond.methodLink "SchoolOnRaft" 234 M_Sc_endsOf.1 ∈ mm_G := mm_wat 840 (by decide +kernel) rfl
theorem lk_Sc_237 : Cond.methodLink "SchoolOnRaft" 237 M_In_bitCount.1 ∈ mm_G := mm_wat 844 (by decide +kernel) rfl
theorem lk_Sc_242 : Cond.methodLink "SchoolOnRaft" 242 M_Sc_whoHave.1 ∈ mm_G := mm_wat 849 (by decide +kernel) rfl
theorem lk_Sc_245 : Cond.methodLink "SchoolOnRaft" 245 M_Sc_isWater.1 ∈ mm_G := mm_wat 857 (by decide +kernel) rfl
theorem lk_Sc_248 : Cond.methodLink "SchoolOnRaft" 248 M_Sc_draw.1 ∈ mm_G := mm_wat 860 (by decide +kernel) rfl
theorem lk_Sc_254 : Cond.methodLink "SchoolOnRaft" 254 M_Sc_commonDivisor.1 ∈ mm_G := mm_wat 870 (by decide +kernel) rfl
theorem lk_Sc_257 : Cond.methodLink "SchoolOnRaft" 257 M_Bo_become.1 ∈ mm_G := mm_wat 877 (by decide +kernel) rfl
theorem lk_Sc_261 : Cond.methodLink "SchoolOnRaft" 261 M_Sc_bendsWithLesson.1 ∈ mm_G := mm_wat 890 (by decide +kernel) rfl
theorem lk_Sc_264 : Cond.methodLink "SchoolOnRaft" 264 M_Sc_isSheet.1 ∈ mm_G := mm_wat 820 (by decide +kernel) rfl
theorem lk_Sc_267 : Cond.methodLink "SchoolOnRaft" 267 M_Sc_isSort.1 ∈ mm_G := mm_wat 897 (by decide +kernel) rfl
theorem lk_Sc_270 : Cond.methodLink "SchoolOnRaft" 270 M_Sc_trimmed.1 ∈ mm_G := mm_wat 904 (by decide +kernel) rfl
theorem lk_Sc_273 : Cond.methodLink "SchoolOnRaft" 273 M_Sc_isStretch.1 ∈ mm_G := mm_wat 911 (by decide +kernel) rfl
theorem lk_Sc_276 : Cond.methodLink "SchoolOnRaft" 276 M_Sc_isUnder.1 ∈ mm_G := mm_wat 922 (by decide +kernel) rfl
theorem lk_Sc_280 : Cond.methodLink "SchoolOnRaft" 280 M_Sc_isAge.1 ∈ mm_G := mm_wat 397 (by decide +kernel) rfl
theorem lk_Sc_296 : Cond.methodLink "SchoolOnRaft" 296 M_Bo_addChild.1 ∈ mm_G := mm_wat 400 (by decide +kernel) rfl
theorem lk_Sc_299 : Cond.methodLink "SchoolOnRaft" 299 M_Sp_runCost.1 ∈ mm_G := mm_wat 796 (by decide +kernel) rfl
theorem lk_Bo_3 : Cond.methodLink "SchoolOnRaft$Board" 3 Lib.objectInit ∈ mm_G := mm_wat 116 (by decide +kernel) rfl
theorem lk_Bo_36 : Cond.methodLink "SchoolOnRaft$Board" 36 M_Ar_fill.1 ∈ mm_G := mm_wat 117 (by decide +kernel) rfl
theorem lk_Bo_52 : Cond.methodLink "SchoolOnRaft$Board" 52 arraycopyName ∈ mm_G := mm_wat 881 (by decide +kernel) rfl
theorem lk_Hk_7 : Cond.methodLink "SchoolOnRaft$HardKind" 7 M_Lo_times.1 ∈ mm_G := mm_wat 439 (by decide +kernel) rfl
theorem lk_Hk_15 : Cond.methodLink "SchoolOnRaft$HardKind" 15 M_Lo_value.1 ∈ mm_G := mm_wat 460 (by decide +kernel) rfl
theorem lk_Kd_1 : Cond.methodLink "SchoolOnRaft$Kind" 1 Lib.objectInit ∈ mm_G := mm_wat 205 (by decide +kernel) rfl
theorem lk_Li_7 : Cond.methodLink "SchoolOnRaft$LightKind" 7 M_Kd_value.1 ∈ mm_G := mm_wat 467 (by decide +kernel) rfl
theorem lk_Lo_7 : Cond.methodLink "SchoolOnRaft$LongKind" 7 M_Kd_times.1 ∈ mm_G := mm_wat 442 (by decide +kernel) rfl
theorem lk_Lo_11 : Cond.methodLink "SchoolOnRaft$LongKind" 11 M_Kd_value.1 ∈ mm_G := mm_wat 463 (by decide +kernel) rfl
theorem lk_Pk_7 : Cond.methodLink "SchoolOnRaft$ProofKind" 7 M_Lo_value.1 ∈ mm_G := mm_wat 472 (by decide +kernel) rfl
theorem lk_Re_3 : Cond.methodLink "SchoolOnRaft$Reader" 3 Lib.objectInit ∈ mm_G := mm_wat 303 (by decide +kernel) rfl
theorem lk_Re_22 : Cond.methodLink "SchoolOnRaft$Reader" 22 M_Re_advance.1 ∈ mm_G := mm_wat 505 (by decide +kernel) rfl
theorem lk_Re_27 : Cond.methodLink "SchoolOnRaft$Reader" 27 M_Re_section.1 ∈ mm_G := mm_wat 590 (by decide +kernel) rfl
theorem lk_Re_37 : Cond.methodLink "SchoolOnRaft$Reader" 37 M_Te_init.1 ∈ mm_G := mm_wat 643 (by decide +kernel) rfl
theorem lk_Re_43 : Cond.methodLink "SchoolOnRaft$Reader" 43 M_Re_either.1 ∈ mm_G := mm_wat 594 (by decide +kernel) rfl
theorem lk_Re_47 : Cond.methodLink "SchoolOnRaft$Reader" 47 M_Ar_copyOf.1 ∈ mm_G := mm_wat 626 (by decide +kernel) rfl
theorem lk_Re_53 : Cond.methodLink "SchoolOnRaft$Reader" 53 M_Re_both.1 ∈ mm_G := mm_wat 598 (by decide +kernel) rfl
theorem lk_Re_56 : Cond.methodLink "SchoolOnRaft$Reader" 56 M_Re_write.1 ∈ mm_G := mm_wat 622 (by decide +kernel) rfl
theorem lk_Re_60 : Cond.methodLink "SchoolOnRaft$Reader" 60 M_Re_denied.1 ∈ mm_G := mm_wat 602 (by decide +kernel) rfl
theorem lk_Re_63 : Cond.methodLink "SchoolOnRaft$Reader" 63 M_Re_compared.1 ∈ mm_G := mm_wat 606 (by decide +kernel) rfl
theorem lk_Re_66 : Cond.methodLink "SchoolOnRaft$Reader" 66 M_Re_sum.1 ∈ mm_G := mm_wat 610 (by decide +kernel) rfl
theorem lk_Re_69 : Cond.methodLink "SchoolOnRaft$Reader" 69 M_Re_term.1 ∈ mm_G := mm_wat 614 (by decide +kernel) rfl
theorem lk_Re_72 : Cond.methodLink "SchoolOnRaft$Reader" 72 M_Re_one.1 ∈ mm_G := mm_wat 618 (by decide +kernel) rfl
theorem lk_Re_78 : Cond.methodLink "SchoolOnRaft$Reader" 78 M_Re_isDigit.1 ∈ mm_G := mm_wat 509 (by decide +kernel) rfl
theorem lk_Re_81 : Cond.methodLink "SchoolOnRaft$Reader" 81 M_Re_number.1 ∈ mm_G := mm_wat 512 (by decide +kernel) rfl
theorem lk_Re_85 : Cond.methodLink "SchoolOnRaft$Reader" 85 M_Re_isLetter.1 ∈ mm_G := mm_wat 516 (by decide +kernel) rfl
theorem lk_Re_88 : Cond.methodLink "SchoolOnRaft$Reader" 88 M_Re_word.1 ∈ mm_G := mm_wat 519 (by decide +kernel) rfl
theorem lk_Re_91 : Cond.methodLink "SchoolOnRaft$Reader" 91 M_Re_sign.1 ∈ mm_G := mm_wat 587 (by decide +kernel) rfl
theorem lk_Re_97 : Cond.methodLink "SchoolOnRaft$Reader" 97 M_Re_reads.1 ∈ mm_G := mm_wat 524 (by decide +kernel) rfl
theorem lk_Re_123 : Cond.methodLink "SchoolOnRaft$Reader" 123 M_St_length.1 ∈ mm_G := mm_wat 528 (by decide +kernel) rfl
theorem lk_Re_128 : Cond.methodLink "SchoolOnRaft$Reader" 128 M_St_charAt.1 ∈ mm_G := mm_wat 538 (by decide +kernel) rfl
theorem lk_Se_3 : Cond.methodLink "SchoolOnRaft$Search" 3 Lib.objectInit ∈ mm_G := mm_wat 273 (by decide +kernel) rfl
theorem lk_Se_31 : Cond.methodLink "SchoolOnRaft$Search" 31 M_Ar_fill.1 ∈ mm_G := mm_wat 758 (by decide +kernel) rfl
theorem lk_Se_41 : Cond.methodLink "SchoolOnRaft$Search" 41 M_Se_visit.1 ∈ mm_G := mm_wat 759 (by decide +kernel) rfl
theorem lk_Se_45 : Cond.methodLink "SchoolOnRaft$Search" 45 M_Se_weigh.1 ∈ mm_G := mm_wat 763 (by decide +kernel) rfl
theorem lk_Se_60 : Cond.methodLink "SchoolOnRaft$Search" 60 M_Se_step.1 ∈ mm_G := mm_wat 772 (by decide +kernel) rfl
theorem lk_Se_73 : Cond.methodLink "SchoolOnRaft$Search" 73 M_Se_listens.1 ∈ mm_G := mm_wat 776 (by decide +kernel) rfl
theorem lk_Se_77 : Cond.methodLink "SchoolOnRaft$Search" 77 M_Sp_listened.1 ∈ mm_G := mm_wat 781 (by decide +kernel) rfl
theorem lk_Se_81 : Cond.methodLink "SchoolOnRaft$Search" 81 M_Sp_owned.1 ∈ mm_G := mm_wat 767 (by decide +kernel) rfl
theorem lk_Se_85 : Cond.methodLink "SchoolOnRaft$Search" 85 M_In_bitCount.1 ∈ mm_G := mm_wat 768 (by decide +kernel) rfl
theorem lk_Se_91 : Cond.methodLink "SchoolOnRaft$Search" 91 M_Sp_timesHeard.1 ∈ mm_G := mm_wat 769 (by decide +kernel) rfl
theorem lk_Se_94 : Cond.methodLink "SchoolOnRaft$Search" 94 M_Sp_hears.1 ∈ mm_G := mm_wat 780 (by decide +kernel) rfl
theorem lk_Se_98 : Cond.methodLink "SchoolOnRaft$Search" 98 M_Sp_gain.1 ∈ mm_G := mm_wat 770 (by decide +kernel) rfl
theorem lk_Se_102 : Cond.methodLink "SchoolOnRaft$Search" 102 arraycopyName ∈ mm_G := mm_wat 771 (by decide +kernel) rfl
theorem lk_So_11 : Cond.methodLink "SchoolOnRaft$SongKind" 11 M_Li_keeps.1 ∈ mm_G := mm_wat 688 (by decide +kernel) rfl
theorem lk_So_15 : Cond.methodLink "SchoolOnRaft$SongKind" 15 M_Li_value.1 ∈ mm_G := mm_wat 476 (by decide +kernel) rfl
theorem lk_Sp_5 : Cond.methodLink "SchoolOnRaft$Spring" 5 Lib.objectInit ∈ mm_G := mm_wat 110 (by decide +kernel) rfl
theorem lk_Sp_13 : Cond.methodLink "SchoolOnRaft$Spring" 13 M_Bo_init.1 ∈ mm_G := mm_wat 113 (by decide +kernel) rfl
theorem lk_Sp_37 : Cond.methodLink "SchoolOnRaft$Spring" 37 M_Te_init.1 ∈ mm_G := mm_wat 184 (by decide +kernel) rfl
theorem lk_Sp_69 : Cond.methodLink "SchoolOnRaft$Spring" 69 M_Sp_lastUnderstood.1 ∈ mm_G := mm_wat 666 (by decide +kernel) rfl
theorem lk_Sp_73 : Cond.methodLink "SchoolOnRaft$Spring" 73 M_Sp_kindOf.1 ∈ mm_G := mm_wat 669 (by decide +kernel) rfl
theorem lk_Sp_80 : Cond.methodLink "SchoolOnRaft$Spring" 80 M_Kd_keeps.1 ∈ mm_G := mm_wat 670 (by decide +kernel) rfl
theorem lk_Sp_84 : Cond.methodLink "SchoolOnRaft$Spring" 84 M_Sp_stage.1 ∈ mm_G := mm_wat 703 (by decide +kernel) rfl
theorem lk_Sp_88 : Cond.methodLink "SchoolOnRaft$Spring" 88 M_Sp_ruleText.1 ∈ mm_G := mm_wat 707 (by decide +kernel) rfl
theorem lk_Sp_95 : Cond.methodLink "SchoolOnRaft$Spring" 95 M_Sp_worked.1 ∈ mm_G := mm_wat 711 (by decide +kernel) rfl
theorem lk_Sp_102 : Cond.methodLink "SchoolOnRaft$Spring" 102 M_Ma_min.1 ∈ mm_G := mm_wat 657 (by decide +kernel) rfl
theorem lk_Sp_107 : Cond.methodLink "SchoolOnRaft$Spring" 107 M_Ma_max.1 ∈ mm_G := mm_wat 746 (by decide +kernel) rfl
theorem lk_Sp_110 : Cond.methodLink "SchoolOnRaft$Spring" 110 M_Kd_value.1 ∈ mm_G := mm_wat 749 (by decide +kernel) rfl
theorem lk_Sp_117 : Cond.methodLink "SchoolOnRaft$Spring" 117 M_Sp_owned.1 ∈ mm_G := mm_wat 662 (by decide +kernel) rfl
theorem lk_Sp_123 : Cond.methodLink "SchoolOnRaft$Spring" 123 M_Sp_timesHeard.1 ∈ mm_G := mm_wat 696 (by decide +kernel) rfl
theorem lk_Sp_126 : Cond.methodLink "SchoolOnRaft$Spring" 126 M_Kd_times.1 ∈ mm_G := mm_wat 722 (by decide +kernel) rfl
theorem lk_Sp_129 : Cond.methodLink "SchoolOnRaft$Spring" 129 M_In_bitCount.1 ∈ mm_G := mm_wat 690 (by decide +kernel) rfl
theorem lk_Sp_134 : Cond.methodLink "SchoolOnRaft$Spring" 134 M_Sp_hears.1 ∈ mm_G := mm_wat 699 (by decide +kernel) rfl
theorem lk_Sp_137 : Cond.methodLink "SchoolOnRaft$Spring" 137 M_Sp_listened.1 ∈ mm_G := mm_wat 718 (by decide +kernel) rfl
theorem lk_Sp_144 : Cond.methodLink "SchoolOnRaft$Spring" 144 M_Sp_memoryOf.1 ∈ mm_G := mm_wat 658 (by decide +kernel) rfl
theorem lk_Sp_154 : Cond.methodLink "SchoolOnRaft$Spring" 154 M_Sp_gain.1 ∈ mm_G := mm_wat 742 (by decide +kernel) rfl
theorem lk_Sp_158 : Cond.methodLink "SchoolOnRaft$Spring" 158 M_Sp_ownedBehind.1 ∈ mm_G := mm_wat 827 (by decide +kernel) rfl
theorem lk_Sp_167 : Cond.methodLink "SchoolOnRaft$Spring" 167 M_Sp_joined.1 ∈ mm_G := mm_wat 715 (by decide +kernel) rfl
theorem lk_Te_1 : Cond.methodLink "SchoolOnRaft$Text" 1 Lib.objectInit ∈ mm_G := mm_wat 187 (by decide +kernel) rfl
theorem lk_La_9 : Cond.methodLink "SchoolOnRaftLaw" 9 M_Sc_init.1 ∈ mm_G := mm_wat 99 (by decide +kernel) rfl
theorem lk_La_12 : Cond.methodLink "SchoolOnRaftLaw" 12 M_Mo_init.1 ∈ mm_G := mm_wat 932 (by decide +kernel) rfl
theorem lk_La_13 : Cond.methodLink "SchoolOnRaftLaw" 13 M_Sc_lesson.1 ∈ mm_G := mm_wat 365 (by decide +kernel) rfl
theorem lk_La_17 : Cond.methodLink "SchoolOnRaftLaw" 17 M_Mo_lesson.1 ∈ mm_G := mm_wat 1088 (by decide +kernel) rfl
theorem lk_La_18 : Cond.methodLink "SchoolOnRaftLaw" 18 M_Sc_child.1 ∈ mm_G := mm_wat 386 (by decide +kernel) rfl
theorem lk_La_22 : Cond.methodLink "SchoolOnRaftLaw" 22 M_Mo_child.1 ∈ mm_G := mm_wat 1097 (by decide +kernel) rfl
theorem lk_La_23 : Cond.methodLink "SchoolOnRaftLaw" 23 M_Sc_set.1 ∈ mm_G := mm_wat 404 (by decide +kernel) rfl
theorem lk_La_26 : Cond.methodLink "SchoolOnRaftLaw" 26 M_Mo_set.1 ∈ mm_G := mm_wat 1103 (by decide +kernel) rfl
theorem lk_La_27 : Cond.methodLink "SchoolOnRaftLaw" 27 M_Sc_told.1 ∈ mm_G := mm_wat 424 (by decide +kernel) rfl
theorem lk_La_30 : Cond.methodLink "SchoolOnRaftLaw" 30 M_Mo_told.1 ∈ mm_G := mm_wat 1116 (by decide +kernel) rfl
theorem lk_La_31 : Cond.methodLink "SchoolOnRaftLaw" 31 M_Sc_give.1 ∈ mm_G := mm_wat 478 (by decide +kernel) rfl
theorem lk_La_34 : Cond.methodLink "SchoolOnRaftLaw" 34 M_Mo_give.1 ∈ mm_G := mm_wat 1129 (by decide +kernel) rfl
theorem lk_La_35 : Cond.methodLink "SchoolOnRaftLaw" 35 M_Sc_given.1 ∈ mm_G := mm_wat 489 (by decide +kernel) rfl
theorem lk_La_38 : Cond.methodLink "SchoolOnRaftLaw" 38 M_Mo_given.1 ∈ mm_G := mm_wat 1133 (by decide +kernel) rfl
theorem lk_La_39 : Cond.methodLink "SchoolOnRaftLaw" 39 M_Sc_feed.1 ∈ mm_G := mm_wat 493 (by decide +kernel) rfl
theorem lk_La_43 : Cond.methodLink "SchoolOnRaftLaw" 43 M_Mo_feed.1 ∈ mm_G := mm_wat 1137 (by decide +kernel) rfl
theorem lk_La_44 : Cond.methodLink "SchoolOnRaftLaw" 44 M_Sc_text.1 ∈ mm_G := mm_wat 497 (by decide +kernel) rfl
theorem lk_La_48 : Cond.methodLink "SchoolOnRaftLaw" 48 M_Mo_text.1 ∈ mm_G := mm_wat 1142 (by decide +kernel) rfl
theorem lk_La_49 : Cond.methodLink "SchoolOnRaftLaw" 49 M_Sc_force.1 ∈ mm_G := mm_wat 645 (by decide +kernel) rfl
theorem lk_La_52 : Cond.methodLink "SchoolOnRaftLaw" 52 M_Mo_force.1 ∈ mm_G := mm_wat 1217 (by decide +kernel) rfl
theorem lk_La_53 : Cond.methodLink "SchoolOnRaftLaw" 53 M_Sc_has.1 ∈ mm_G := mm_wat 649 (by decide +kernel) rfl
theorem lk_La_56 : Cond.methodLink "SchoolOnRaftLaw" 56 M_Mo_has.1 ∈ mm_G := mm_wat 1221 (by decide +kernel) rfl
theorem lk_La_57 : Cond.methodLink "SchoolOnRaftLaw" 57 M_Sc_heard.1 ∈ mm_G := mm_wat 723 (by decide +kernel) rfl
theorem lk_La_60 : Cond.methodLink "SchoolOnRaftLaw" 60 M_Mo_heard.1 ∈ mm_G := mm_wat 1264 (by decide +kernel) rfl
theorem lk_La_61 : Cond.methodLink "SchoolOnRaftLaw" 61 M_Sc_points.1 ∈ mm_G := mm_wat 730 (by decide +kernel) rfl
theorem lk_La_64 : Cond.methodLink "SchoolOnRaftLaw" 64 M_Mo_points.1 ∈ mm_G := mm_wat 1268 (by decide +kernel) rfl
theorem lk_La_65 : Cond.methodLink "SchoolOnRaftLaw" 65 M_Sc_best.1 ∈ mm_G := mm_wat 750 (by decide +kernel) rfl
theorem lk_La_68 : Cond.methodLink "SchoolOnRaftLaw" 68 M_Mo_best.1 ∈ mm_G := mm_wat 1291 (by decide +kernel) rfl
theorem lk_La_69 : Cond.methodLink "SchoolOnRaftLaw" 69 M_Sc_lay.1 ∈ mm_G := mm_wat 782 (by decide +kernel) rfl
theorem lk_La_72 : Cond.methodLink "SchoolOnRaftLaw" 72 M_Mo_lay.1 ∈ mm_G := mm_wat 1304 (by decide +kernel) rfl
theorem lk_La_73 : Cond.methodLink "SchoolOnRaftLaw" 73 M_Sc_run.1 ∈ mm_G := mm_wat 787 (by decide +kernel) rfl
theorem lk_La_76 : Cond.methodLink "SchoolOnRaftLaw" 76 M_Mo_run.1 ∈ mm_G := mm_wat 1308 (by decide +kernel) rfl
theorem lk_La_77 : Cond.methodLink "SchoolOnRaftLaw" 77 M_Sc_twice.1 ∈ mm_G := mm_wat 800 (by decide +kernel) rfl
theorem lk_La_80 : Cond.methodLink "SchoolOnRaftLaw" 80 M_Mo_twice.1 ∈ mm_G := mm_wat 1313 (by decide +kernel) rfl
theorem lk_La_81 : Cond.methodLink "SchoolOnRaftLaw" 81 M_Sc_change.1 ∈ mm_G := mm_wat 804 (by decide +kernel) rfl
theorem lk_La_84 : Cond.methodLink "SchoolOnRaftLaw" 84 M_Mo_change.1 ∈ mm_G := mm_wat 1317 (by decide +kernel) rfl
theorem lk_La_85 : Cond.methodLink "SchoolOnRaftLaw" 85 M_Sc_exam.1 ∈ mm_G := mm_wat 812 (by decide +kernel) rfl
theorem lk_La_88 : Cond.methodLink "SchoolOnRaftLaw" 88 M_Mo_exam.1 ∈ mm_G := mm_wat 1325 (by decide +kernel) rfl
theorem lk_La_89 : Cond.methodLink "SchoolOnRaftLaw" 89 M_Sc_aboard.1 ∈ mm_G := mm_wat 828 (by decide +kernel) rfl
theorem lk_La_92 : Cond.methodLink "SchoolOnRaftLaw" 92 M_Mo_aboard.1 ∈ mm_G := mm_wat 1341 (by decide +kernel) rfl
theorem lk_La_93 : Cond.methodLink "SchoolOnRaftLaw" 93 M_Sc_together.1 ∈ mm_G := mm_wat 832 (by decide +kernel) rfl
theorem lk_La_96 : Cond.methodLink "SchoolOnRaftLaw" 96 M_Mo_together.1 ∈ mm_G := mm_wat 1345 (by decide +kernel) rfl
theorem lk_La_97 : Cond.methodLink "SchoolOnRaftLaw" 97 M_Sc_known.1 ∈ mm_G := mm_wat 845 (by decide +kernel) rfl
theorem lk_La_100 : Cond.methodLink "SchoolOnRaftLaw" 100 M_Mo_known.1 ∈ mm_G := mm_wat 1353 (by decide +kernel) rfl
theorem lk_La_101 : Cond.methodLink "SchoolOnRaftLaw" 101 M_Sc_drawn.1 ∈ mm_G := mm_wat 853 (by decide +kernel) rfl
theorem lk_La_104 : Cond.methodLink "SchoolOnRaftLaw" 104 M_Mo_drawn.1 ∈ mm_G := mm_wat 1357 (by decide +kernel) rfl
theorem lk_La_105 : Cond.methodLink "SchoolOnRaftLaw" 105 M_Sc_chance.1 ∈ mm_G := mm_wat 865 (by decide +kernel) rfl
theorem lk_La_109 : Cond.methodLink "SchoolOnRaftLaw" 109 M_Mo_chance.1 ∈ mm_G := mm_wat 1366 (by decide +kernel) rfl
theorem lk_La_110 : Cond.methodLink "SchoolOnRaftLaw" 110 M_Sc_image.1 ∈ mm_G := mm_wat 873 (by decide +kernel) rfl
theorem lk_La_113 : Cond.methodLink "SchoolOnRaftLaw" 113 M_Mo_image.1 ∈ mm_G := mm_wat 1372 (by decide +kernel) rfl
theorem lk_La_114 : Cond.methodLink "SchoolOnRaftLaw" 114 M_Sc_back.1 ∈ mm_G := mm_wat 882 (by decide +kernel) rfl
theorem lk_La_117 : Cond.methodLink "SchoolOnRaftLaw" 117 M_Mo_back.1 ∈ mm_G := mm_wat 1376 (by decide +kernel) rfl
theorem lk_La_118 : Cond.methodLink "SchoolOnRaftLaw" 118 M_Sc_count.1 ∈ mm_G := mm_wat 886 (by decide +kernel) rfl
theorem lk_La_121 : Cond.methodLink "SchoolOnRaftLaw" 121 M_Mo_count.1 ∈ mm_G := mm_wat 1380 (by decide +kernel) rfl
theorem lk_La_122 : Cond.methodLink "SchoolOnRaftLaw" 122 M_Sc_sheet.1 ∈ mm_G := mm_wat 893 (by decide +kernel) rfl
theorem lk_La_125 : Cond.methodLink "SchoolOnRaftLaw" 125 M_Mo_sheet.1 ∈ mm_G := mm_wat 1384 (by decide +kernel) rfl
theorem lk_La_126 : Cond.methodLink "SchoolOnRaftLaw" 126 M_Sc_cell.1 ∈ mm_G := mm_wat 900 (by decide +kernel) rfl
theorem lk_La_129 : Cond.methodLink "SchoolOnRaftLaw" 129 M_Mo_cell.1 ∈ mm_G := mm_wat 1389 (by decide +kernel) rfl
theorem lk_La_130 : Cond.methodLink "SchoolOnRaftLaw" 130 M_Sc_copy.1 ∈ mm_G := mm_wat 907 (by decide +kernel) rfl
theorem lk_La_134 : Cond.methodLink "SchoolOnRaftLaw" 134 M_Mo_copy.1 ∈ mm_G := mm_wat 1393 (by decide +kernel) rfl
theorem lk_La_135 : Cond.methodLink "SchoolOnRaftLaw" 135 M_Sc_children.1 ∈ mm_G := mm_wat 914 (by decide +kernel) rfl
theorem lk_La_139 : Cond.methodLink "SchoolOnRaftLaw" 139 M_Mo_children.1 ∈ mm_G := mm_wat 1397 (by decide +kernel) rfl
theorem lk_La_140 : Cond.methodLink "SchoolOnRaftLaw" 140 M_Sc_taken.1 ∈ mm_G := mm_wat 918 (by decide +kernel) rfl
theorem lk_La_143 : Cond.methodLink "SchoolOnRaftLaw" 143 M_Mo_taken.1 ∈ mm_G := mm_wat 1402 (by decide +kernel) rfl
theorem lk_Mo_7 : Cond.methodLink "SchoolOnRaftModel" 7 Lib.objectInit ∈ mm_G := mm_wat 935 (by decide +kernel) rfl
theorem lk_Mo_90 : Cond.methodLink "SchoolOnRaftModel" 90 M_Mo_spell.1 ∈ mm_G := mm_wat 936 (by decide +kernel) rfl
theorem lk_Mo_100 : Cond.methodLink "SchoolOnRaftModel" 100 M_Mo_in.1 ∈ mm_G := mm_wat 1093 (by decide +kernel) rfl
theorem lk_Mo_117 : Cond.methodLink "SchoolOnRaftModel" 117 M_Mo_isLesson.1 ∈ mm_G := mm_wat 1108 (by decide +kernel) rfl
theorem lk_Mo_121 : Cond.methodLink "SchoolOnRaftModel" 121 M_Mo_isChild.1 ∈ mm_G := mm_wat 1112 (by decide +kernel) rfl
theorem lk_Mo_126 : Cond.methodLink "SchoolOnRaftModel" 126 M_Mo_times.1 ∈ mm_G := mm_wat 1121 (by decide +kernel) rfl
theorem lk_Mo_130 : Cond.methodLink "SchoolOnRaftModel" 130 M_Mo_pointsOf.1 ∈ mm_G := mm_wat 1125 (by decide +kernel) rfl
theorem lk_Mo_147 : Cond.methodLink "SchoolOnRaftModel" 147 M_Mo_byteAt.1 ∈ mm_G := mm_wat 1154 (by decide +kernel) rfl
theorem lk_Mo_177 : Cond.methodLink "SchoolOnRaftModel" 177 M_Mo_isLetter.1 ∈ mm_G := mm_wat 1167 (by decide +kernel) rfl
theorem lk_Mo_184 : Cond.methodLink "SchoolOnRaftModel" 184 M_Mo_fail.1 ∈ mm_G := mm_wat 1175 (by decide +kernel) rfl
theorem lk_Mo_187 : Cond.methodLink "SchoolOnRaftModel" 187 M_Mo_next.1 ∈ mm_G := mm_wat 1150 (by decide +kernel) rfl
theorem lk_Mo_190 : Cond.methodLink "SchoolOnRaftModel" 190 M_Mo_isWord.1 ∈ mm_G := mm_wat 1163 (by decide +kernel) rfl
theorem lk_Mo_212 : Cond.methodLink "SchoolOnRaftModel" 212 M_Mo_isSign.1 ∈ mm_G := mm_wat 1207 (by decide +kernel) rfl
theorem lk_Mo_215 : Cond.methodLink "SchoolOnRaftModel" 215 M_Mo_opens.1 ∈ mm_G := mm_wat 1191 (by decide +kernel) rfl
theorem lk_Mo_219 : Cond.methodLink "SchoolOnRaftModel" 219 M_Mo_atom.1 ∈ mm_G := mm_wat 1203 (by decide +kernel) rfl
theorem lk_Mo_223 : Cond.methodLink "SchoolOnRaftModel" 223 M_Mo_either.1 ∈ mm_G := mm_wat 1179 (by decide +kernel) rfl
theorem lk_Mo_226 : Cond.methodLink "SchoolOnRaftModel" 226 M_Mo_name.1 ∈ mm_G := mm_wat 1211 (by decide +kernel) rfl
theorem lk_Mo_229 : Cond.methodLink "SchoolOnRaftModel" 229 M_Mo_term.1 ∈ mm_G := mm_wat 1199 (by decide +kernel) rfl
theorem lk_Mo_234 : Cond.methodLink "SchoolOnRaftModel" 234 M_Mo_not.1 ∈ mm_G := mm_wat 1187 (by decide +kernel) rfl
theorem lk_Mo_237 : Cond.methodLink "SchoolOnRaftModel" 237 M_Mo_added.1 ∈ mm_G := mm_wat 1195 (by decide +kernel) rfl
theorem lk_Mo_242 : Cond.methodLink "SchoolOnRaftModel" 242 M_Mo_both.1 ∈ mm_G := mm_wat 1183 (by decide +kernel) rfl
theorem lk_Mo_245 : Cond.methodLink "SchoolOnRaftModel" 245 M_Mo_part.1 ∈ mm_G := mm_wat 1171 (by decide +kernel) rfl
theorem lk_Mo_249 : Cond.methodLink "SchoolOnRaftModel" 249 M_Mo_read.1 ∈ mm_G := mm_wat 1146 (by decide +kernel) rfl
theorem lk_Mo_256 : Cond.methodLink "SchoolOnRaftModel" 256 M_Mo_says.1 ∈ mm_G := mm_wat 1260 (by decide +kernel) rfl
theorem lk_Mo_260 : Cond.methodLink "SchoolOnRaftModel" 260 M_Mo_within.1 ∈ mm_G := mm_wat 1288 (by decide +kernel) rfl
theorem lk_Mo_264 : Cond.methodLink "SchoolOnRaftModel" 264 M_Mo_keeps.1 ∈ mm_G := mm_wat 1249 (by decide +kernel) rfl
theorem lk_Mo_267 : Cond.methodLink "SchoolOnRaftModel" 267 M_Mo_hasBy.1 ∈ mm_G := mm_wat 1245 (by decide +kernel) rfl
theorem lk_Mo_270 : Cond.methodLink "SchoolOnRaftModel" 270 M_Mo_bitsOf.1 ∈ mm_G := mm_wat 1253 (by decide +kernel) rfl
theorem lk_Mo_273 : Cond.methodLink "SchoolOnRaftModel" 273 M_Mo_hears.1 ∈ mm_G := mm_wat 1256 (by decide +kernel) rfl
theorem lk_Mo_277 : Cond.methodLink "SchoolOnRaftModel" 277 M_Mo_begins.1 ∈ mm_G := mm_wat 1237 (by decide +kernel) rfl
theorem lk_Mo_280 : Cond.methodLink "SchoolOnRaftModel" 280 M_Mo_passes.1 ∈ mm_G := mm_wat 1241 (by decide +kernel) rfl
theorem lk_Mo_284 : Cond.methodLink "SchoolOnRaftModel" 284 M_Mo_worth.1 ∈ mm_G := mm_wat 1284 (by decide +kernel) rfl
theorem lk_Mo_288 : Cond.methodLink "SchoolOnRaftModel" 288 M_Mo_spring.1 ∈ mm_G := mm_wat 1233 (by decide +kernel) rfl
theorem lk_Mo_292 : Cond.methodLink "SchoolOnRaftModel" 292 M_Mo_endPoints.1 ∈ mm_G := mm_wat 1280 (by decide +kernel) rfl
theorem lk_Mo_295 : Cond.methodLink "SchoolOnRaftModel" 295 M_Mo_pointsBy.1 ∈ mm_G := mm_wat 1276 (by decide +kernel) rfl
theorem lk_Mo_298 : Cond.methodLink "SchoolOnRaftModel" 298 M_Mo_forgets.1 ∈ mm_G := mm_wat 1225 (by decide +kernel) rfl
theorem lk_Mo_301 : Cond.methodLink "SchoolOnRaftModel" 301 M_Mo_takesPlan.1 ∈ mm_G := mm_wat 1229 (by decide +kernel) rfl
theorem lk_Mo_304 : Cond.methodLink "SchoolOnRaftModel" 304 M_Mo_allPoints.1 ∈ mm_G := mm_wat 1272 (by decide +kernel) rfl
theorem lk_Mo_307 : Cond.methodLink "SchoolOnRaftModel" 307 M_Mo_adds.1 ∈ mm_G := mm_wat 1300 (by decide +kernel) rfl
theorem lk_Mo_315 : Cond.methodLink "SchoolOnRaftModel" 315 M_Mo_seeks.1 ∈ mm_G := mm_wat 1296 (by decide +kernel) rfl
theorem lk_Mo_320 : Cond.methodLink "SchoolOnRaftModel" 320 M_Mo_changeAt.1 ∈ mm_G := mm_wat 1321 (by decide +kernel) rfl
theorem lk_Mo_323 : Cond.methodLink "SchoolOnRaftModel" 323 M_Mo_isSheet.1 ∈ mm_G := mm_wat 1333 (by decide +kernel) rfl
theorem lk_Mo_326 : Cond.methodLink "SchoolOnRaftModel" 326 M_Mo_examBad.1 ∈ mm_G := mm_wat 1329 (by decide +kernel) rfl
theorem lk_Mo_329 : Cond.methodLink "SchoolOnRaftModel" 329 M_Mo_unlike.1 ∈ mm_G := mm_wat 1337 (by decide +kernel) rfl
theorem lk_Mo_332 : Cond.methodLink "SchoolOnRaftModel" 332 M_Mo_allHave.1 ∈ mm_G := mm_wat 1349 (by decide +kernel) rfl
theorem lk_Mo_336 : Cond.methodLink "SchoolOnRaftModel" 336 M_Mo_floods.1 ∈ mm_G := mm_wat 1361 (by decide +kernel) rfl
theorem lk_Mo_354 : Cond.methodLink "SchoolOnRaftModel" 354 M_Mo_child.1 ∈ mm_G := mm_wat 1401 (by decide +kernel) rfl
theorem lk_Mo_357 : Cond.methodLink "SchoolOnRaftModel" 357 M_Mo_over.1 ∈ mm_G := mm_wat 1406 (by decide +kernel) rfl
theorem lk_St_335 : Cond.methodLink "java/lang/String" 335 M_St_coder.1 ∈ mm_G := mm_wat 532 (by decide +kernel) rfl
theorem lk_St_492 : Cond.methodLink "java/lang/String" 492 M_St_isLatin1.1 ∈ mm_G := mm_wat 542 (by decide +kernel) rfl
theorem lk_St_495 : Cond.methodLink "java/lang/String" 495 M_Sl_charAt.1 ∈ mm_G := mm_wat 546 (by decide +kernel) rfl
theorem lk_St_1059 : Cond.methodLink "java/lang/String" 1059 M_Pr_checkIndex.1 ∈ mm_G := mm_wat 554 (by decide +kernel) rfl
theorem lk_Sl_9 : Cond.methodLink "java/lang/StringLatin1" 9 M_St_checkIndex.1 ∈ mm_G := mm_wat 549 (by decide +kernel) rfl
theorem lk_Ar_150 : Cond.methodLink "java/util/Arrays" 150 arraycopyName ∈ mm_G := mm_wat 639 (by decide +kernel) rfl
theorem lk_Ar_304 : Cond.methodLink "java/util/Arrays" 304 M_Ma_min.1 ∈ mm_G := mm_wat 636 (by decide +kernel) rfl
theorem lk_Sc_18 : Cond.methodLinkNest "SchoolOnRaft" 18 M_Se_init.1 "SchoolOnRaft" ∈ mm_N := List.mem_filter.mpr ⟨List.mem_of_getElem? (i := 270) (by decide +kernel), rfl⟩
theorem lk_Sc_25 : Cond.methodLinkNest "SchoolOnRaft" 25 M_Re_init.1 "SchoolOnRaft" ∈ mm_N := List.mem_filter.mpr ⟨List.mem_of_getElem? (i := 300) (by decide +kernel), rfl⟩
theorem lk_Hk_1 : Cond.methodLinkNest "SchoolOnRaft$HardKind" 1 M_Lo_init.1 "SchoolOnRaft" ∈ mm_N := List.mem_filter.mpr ⟨List.mem_of_getElem? (i := 226) (by decide +kernel), rfl⟩
theorem lk_Li_1 : Cond.methodLinkNest "SchoolOnRaft$LightKind" 1 M_Kd_init.1 "SchoolOnRaft" ∈ mm_N := List.mem_filter.mpr ⟨List.mem_of_getElem? (i := 219) (by decide +kernel), rfl⟩
theorem lk_Lo_1 : Cond.methodLinkNest "SchoolOnRaft$LongKind" 1 M_Kd_init.1 "SchoolOnRaft" ∈ mm_N := List.mem_filter.mpr ⟨List.mem_of_getElem? (i := 212) (by decide +kernel), rfl⟩
theorem lk_Pk_1 : Cond.methodLinkNest "SchoolOnRaft$ProofKind" 1 M_Lo_init.1 "SchoolOnRaft" ∈ mm_N := List.mem_filter.mpr ⟨List.mem_of_getElem? (i := 240) (by decide +kernel), rfl⟩
theorem lk_So_1 : Cond.methodLinkNest "SchoolOnRaft$SongKind" 1 M_Li_init.1 "SchoolOnRaft" ∈ mm_N := List.mem_filter.mpr ⟨List.mem_of_getElem? (i := 233) (by decide +kernel), rfl⟩
theorem lk_Sp_44 : Cond.methodLinkNest "SchoolOnRaft$Spring" 44 M_Kd_init.1 "SchoolOnRaft" ∈ mm_N := List.mem_filter.mpr ⟨List.mem_of_getElem? (i := 202) (by decide +kernel), rfl⟩
theorem lk_Sp_47 : Cond.methodLinkNest "SchoolOnRaft$Spring" 47 M_Lo_init.1 "SchoolOnRaft" ∈ mm_N := List.mem_filter.mpr ⟨List.mem_of_getElem? (i := 209) (by decide +kernel), rfl⟩
theorem lk_Sp_50 : Cond.methodLinkNest "SchoolOnRaft$Spring" 50 M_Li_init.1 "SchoolOnRaft" ∈ mm_N := List.mem_filter.mpr ⟨List.mem_of_getElem? (i := 216) (by decide +kernel), rfl⟩
theorem lk_Sp_53 : Cond.methodLinkNest "SchoolOnRaft$Spring" 53 M_Hk_init.1 "SchoolOnRaft" ∈ mm_N := List.mem_filter.mpr ⟨List.mem_of_getElem? (i := 223) (by decide +kernel), rfl⟩
theorem lk_Sp_56 : Cond.methodLinkNest "SchoolOnRaft$Spring" 56 M_So_init.1 "SchoolOnRaft" ∈ mm_N := List.mem_filter.mpr ⟨List.mem_of_getElem? (i := 230) (by decide +kernel), rfl⟩
theorem lk_Sp_59 : Cond.methodLinkNest "SchoolOnRaft$Spring" 59 M_Pk_init.1 "SchoolOnRaft" ∈ mm_N := List.mem_filter.mpr ⟨List.mem_of_getElem? (i := 237) (by decide +kernel), rfl⟩
theorem sm_Kd_times : Cond.sameMethod "SchoolOnRaft$Kind" "SchoolOnRaft$Kind" "times" "(I)I" ∈ mm_G := mm_wat 435 (by decide +kernel) rfl
theorem sm_Kd_value : Cond.sameMethod "SchoolOnRaft$Kind" "SchoolOnRaft$Kind" "value" "(I)I" ∈ mm_G := mm_wat 456 (by decide +kernel) rfl
theorem sm_Kd_keeps : Cond.sameMethod "SchoolOnRaft$Kind" "SchoolOnRaft$Kind" "keeps" "(II)Z" ∈ mm_G := mm_wat 673 (by decide +kernel) rfl
theorem sm_Lo_times : Cond.sameMethod "SchoolOnRaft$LongKind" "SchoolOnRaft$LongKind" "times" "(I)I" ∈ mm_G := mm_wat 1409 (by decide +kernel) rfl
theorem sm_Lo_value : Cond.sameMethod "SchoolOnRaft$LongKind" "SchoolOnRaft$LongKind" "value" "(I)I" ∈ mm_G := mm_wat 1410 (by decide +kernel) rfl
theorem sm_Li_value : Cond.sameMethod "SchoolOnRaft$LightKind" "SchoolOnRaft$LightKind" "value" "(I)I" ∈ mm_G := mm_wat 1411 (by decide +kernel) rfl
theorem sm_Li_keeps : Cond.sameMethod "SchoolOnRaft$LightKind" "SchoolOnRaft$LightKind" "keeps" "(II)Z" ∈ mm_G := mm_wat 1412 (by decide +kernel) rfl
theorem su_Lo_Kd : Cond.superclass "SchoolOnRaft$LongKind" "SchoolOnRaft$Kind" ∈ mm_G := mm_wat 213 (by decide +kernel) rfl
theorem su_Li_Kd : Cond.superclass "SchoolOnRaft$LightKind" "SchoolOnRaft$Kind" ∈ mm_G := mm_wat 220 (by decide +kernel) rfl
theorem su_Hk_Lo : Cond.superclass "SchoolOnRaft$HardKind" "SchoolOnRaft$LongKind" ∈ mm_G := mm_wat 227 (by decide +kernel) rfl
theorem su_So_Li : Cond.superclass "SchoolOnRaft$SongKind" "SchoolOnRaft$LightKind" ∈ mm_G := mm_wat 234 (by decide +kernel) rfl
theorem su_Pk_Lo : Cond.superclass "SchoolOnRaft$ProofKind" "SchoolOnRaft$LongKind" ∈ mm_G := mm_wat 241 (by decide +kernel) rfl
theorem ca_Hk_Lo : Cond.castable "SchoolOnRaft$HardKind" "SchoolOnRaft$LongKind" ∈ mm_N := List.mem_filter.mpr ⟨List.mem_of_getElem? (i := 1413) (by decide +kernel), rfl⟩
theorem ca_Pk_Lo : Cond.castable "SchoolOnRaft$ProofKind" "SchoolOnRaft$LongKind" ∈ mm_N := List.mem_filter.mpr ⟨List.mem_of_getElem? (i := 1414) (by decide +kernel), rfl⟩
theorem ca_So_Li : Cond.castable "SchoolOnRaft$SongKind" "SchoolOnRaft$LightKind" ∈ mm_N := List.mem_filter.mpr ⟨List.mem_of_getElem? (i := 1415) (by decide +kernel), rfl⟩
theorem ca_Lo_Kd : Cond.castable "SchoolOnRaft$LongKind" "SchoolOnRaft$Kind" ∈ mm_N := List.mem_filter.mpr ⟨List.mem_of_getElem? (i := 1416) (by decide +kernel), rfl⟩
theorem ca_Li_Kd : Cond.castable "SchoolOnRaft$LightKind" "SchoolOnRaft$Kind" ∈ mm_N := List.mem_filter.mpr ⟨List.mem_of_getElem? (i := 1417) (by decide +kernel), rfl⟩
theorem ca_Hk_Kd : Cond.castable "SchoolOnRaft$HardKind" "SchoolOnRaft$Kind" ∈ mm_N := List.mem_filter.mpr ⟨List.mem_of_getElem? (i := 1418) (by decide +kernel), rfl⟩
theorem ca_So_Kd : Cond.castable "SchoolOnRaft$SongKind" "SchoolOnRaft$Kind" ∈ mm_N := List.mem_filter.mpr ⟨List.mem_of_getElem? (i := 1419) (by decide +kernel), rfl⟩
theorem ca_Pk_Kd : Cond.castable "SchoolOnRaft$ProofKind" "SchoolOnRaft$Kind" ∈ mm_N := List.mem_filter.mpr ⟨List.mem_of_getElem? (i := 1420) (by decide +kernel), rfl⟩
theorem kl_Sc_7 : Cond.classLink "SchoolOnRaft" 7 "SchoolOnRaft$Spring" ∈ mm_G := mm_wat 105 (by decide +kernel) rfl
theorem kl_Sc_16 : Cond.classLink "SchoolOnRaft" 16 "SchoolOnRaft$Search" ∈ mm_G := mm_wat 268 (by decide +kernel) rfl
theorem kl_Sc_23 : Cond.classLink "SchoolOnRaft" 23 "SchoolOnRaft$Reader" ∈ mm_G := mm_wat 298 (by decide +kernel) rfl
theorem kl_Sc_30 : Cond.classLink "SchoolOnRaft" 30 "SchoolOnRaft$Board" ∈ mm_G := mm_wat 329 (by decide +kernel) rfl
theorem kl_Sc_48 : Cond.classLink "SchoolOnRaft" 48 "[[I" ∈ mm_G := mm_wat 331 (by decide +kernel) rfl
theorem kl_Sc_283 : Cond.classLink "SchoolOnRaft" 283 "SchoolOnRaft$LongKind" ∈ mm_G := mm_wat 925 (by decide +kernel) rfl
theorem kl_Sc_285 : Cond.classLink "SchoolOnRaft" 285 "SchoolOnRaft$LightKind" ∈ mm_G := mm_wat 926 (by decide +kernel) rfl
theorem kl_Sc_287 : Cond.classLink "SchoolOnRaft" 287 "SchoolOnRaft$HardKind" ∈ mm_G := mm_wat 927 (by decide +kernel) rfl
theorem kl_Sc_289 : Cond.classLink "SchoolOnRaft" 289 "SchoolOnRaft$SongKind" ∈ mm_G := mm_wat 928 (by decide +kernel) rfl
theorem kl_Sc_291 : Cond.classLink "SchoolOnRaft" 291 "SchoolOnRaft$ProofKind" ∈ mm_G := mm_wat 929 (by decide +kernel) rfl
theorem kl_Re_25 : Cond.classLink "SchoolOnRaft$Reader" 25 "SchoolOnRaft$Text" ∈ mm_G := mm_wat 642 (by decide +kernel) rfl
theorem kl_Sp_11 : Cond.classLink "SchoolOnRaft$Spring" 11 "SchoolOnRaft$Board" ∈ mm_G := mm_wat 111 (by decide +kernel) rfl
theorem kl_Sp_18 : Cond.classLink "SchoolOnRaft$Spring" 18 "SchoolOnRaft$Text" ∈ mm_G := mm_wat 179 (by decide +kernel) rfl
theorem kl_Sp_24 : Cond.classLink "SchoolOnRaft$Spring" 24 "SchoolOnRaft$Kind" ∈ mm_G := mm_wat 181 (by decide +kernel) rfl
theorem kl_Sp_45 : Cond.classLink "SchoolOnRaft$Spring" 45 "SchoolOnRaft$LongKind" ∈ mm_G := mm_wat 207 (by decide +kernel) rfl
theorem kl_Sp_48 : Cond.classLink "SchoolOnRaft$Spring" 48 "SchoolOnRaft$LightKind" ∈ mm_G := mm_wat 214 (by decide +kernel) rfl
theorem kl_Sp_51 : Cond.classLink "SchoolOnRaft$Spring" 51 "SchoolOnRaft$HardKind" ∈ mm_G := mm_wat 221 (by decide +kernel) rfl
theorem kl_Sp_54 : Cond.classLink "SchoolOnRaft$Spring" 54 "SchoolOnRaft$SongKind" ∈ mm_G := mm_wat 228 (by decide +kernel) rfl
theorem kl_Sp_57 : Cond.classLink "SchoolOnRaft$Spring" 57 "SchoolOnRaft$ProofKind" ∈ mm_G := mm_wat 235 (by decide +kernel) rfl
theorem kl_La_7 : Cond.classLink "SchoolOnRaftLaw" 7 "SchoolOnRaft" ∈ mm_G := mm_wat 97 (by decide +kernel) rfl
theorem kl_La_10 : Cond.classLink "SchoolOnRaftLaw" 10 "SchoolOnRaftModel" ∈ mm_G := mm_wat 930 (by decide +kernel) rfl
theorem kl_Ar_317 : Cond.classLink "java/util/Arrays" 317 "[I" ∈ mm_G := mm_wat 635 (by decide +kernel) rfl
theorem ii_La : Cond.initialized "SchoolOnRaftLaw" ∈ mm_G := mm_wat 75 (by decide +kernel) rfl
theorem ii_Sc : Cond.initialized "SchoolOnRaft" ∈ mm_G := mm_wat 76 (by decide +kernel) rfl
theorem ii_Sp : Cond.initialized "SchoolOnRaft$Spring" ∈ mm_G := mm_wat 77 (by decide +kernel) rfl
theorem ii_Bo : Cond.initialized "SchoolOnRaft$Board" ∈ mm_G := mm_wat 78 (by decide +kernel) rfl
theorem ii_Ar : Cond.initialized "java/util/Arrays" ∈ mm_G := mm_wat 79 (by decide +kernel) rfl
theorem ii_Te : Cond.initialized "SchoolOnRaft$Text" ∈ mm_G := mm_wat 80 (by decide +kernel) rfl
theorem ii_Kd : Cond.initialized "SchoolOnRaft$Kind" ∈ mm_G := mm_wat 81 (by decide +kernel) rfl
theorem ii_Lo : Cond.initialized "SchoolOnRaft$LongKind" ∈ mm_G := mm_wat 82 (by decide +kernel) rfl
theorem ii_Li : Cond.initialized "SchoolOnRaft$LightKind" ∈ mm_G := mm_wat 83 (by decide +kernel) rfl
theorem ii_Hk : Cond.initialized "SchoolOnRaft$HardKind" ∈ mm_G := mm_wat 84 (by decide +kernel) rfl
theorem ii_So : Cond.initialized "SchoolOnRaft$SongKind" ∈ mm_G := mm_wat 85 (by decide +kernel) rfl
theorem ii_Pk : Cond.initialized "SchoolOnRaft$ProofKind" ∈ mm_G := mm_wat 86 (by decide +kernel) rfl
theorem ii_Se : Cond.initialized "SchoolOnRaft$Search" ∈ mm_G := mm_wat 87 (by decide +kernel) rfl
theorem ii_Re : Cond.initialized "SchoolOnRaft$Reader" ∈ mm_G := mm_wat 88 (by decide +kernel) rfl
theorem ii_Mo : Cond.initialized "SchoolOnRaftModel" ∈ mm_G := mm_wat 89 (by decide +kernel) rfl
theorem ii_St : Cond.initialized "java/lang/String" ∈ mm_G := mm_wat 90 (by decide +kernel) rfl
theorem ii_Sl : Cond.initialized "java/lang/StringLatin1" ∈ mm_G := mm_wat 91 (by decide +kernel) rfl
theorem ii_Pr : Cond.initialized "jdk/internal/util/Preconditions" ∈ mm_G := mm_wat 92 (by decide +kernel) rfl
theorem ii_Ma : Cond.initialized "java/lang/Math" ∈ mm_G := mm_wat 94 (by decide +kernel) rfl
theorem ii_In : Cond.initialized "java/lang/Integer" ∈ mm_G := mm_wat 96 (by decide +kernel) rfl
theorem ib_Sc : Cond.instantiable "SchoolOnRaft" 10 ∈ mm_G := mm_wat 98 (by decide +kernel) rfl
theorem ib_Sp : Cond.instantiable "SchoolOnRaft$Spring" 7 ∈ mm_G := mm_wat 106 (by decide +kernel) rfl
theorem ib_Bo : Cond.instantiable "SchoolOnRaft$Board" 11 ∈ mm_G := mm_wat 112 (by decide +kernel) rfl
theorem ib_Te : Cond.instantiable "SchoolOnRaft$Text" 3 ∈ mm_G := mm_wat 183 (by decide +kernel) rfl
theorem ib_Kd : Cond.instantiable "SchoolOnRaft$Kind" 0 ∈ mm_G := mm_wat 201 (by decide +kernel) rfl
theorem ib_Lo : Cond.instantiable "SchoolOnRaft$LongKind" 0 ∈ mm_G := mm_wat 208 (by decide +kernel) rfl
theorem ib_Li : Cond.instantiable "SchoolOnRaft$LightKind" 0 ∈ mm_G := mm_wat 215 (by decide +kernel) rfl
theorem ib_Hk : Cond.instantiable "SchoolOnRaft$HardKind" 0 ∈ mm_G := mm_wat 222 (by decide +kernel) rfl
theorem ib_So : Cond.instantiable "SchoolOnRaft$SongKind" 0 ∈ mm_G := mm_wat 229 (by decide +kernel) rfl
theorem ib_Pk : Cond.instantiable "SchoolOnRaft$ProofKind" 0 ∈ mm_G := mm_wat 236 (by decide +kernel) rfl
theorem ib_Se : Cond.instantiable "SchoolOnRaft$Search" 7 ∈ mm_G := mm_wat 269 (by decide +kernel) rfl
theorem ib_Re : Cond.instantiable "SchoolOnRaft$Reader" 7 ∈ mm_G := mm_wat 299 (by decide +kernel) rfl
theorem ib_Mo : Cond.instantiable "SchoolOnRaftModel" 49 ∈ mm_G := mm_wat 931 (by decide +kernel) rfl
theorem in_Ob_init : Cond.instanceMethod Lib.objectInit ∈ mm_G := mm_wat 103 (by decide +kernel) rfl
theorem cd_Ob_init : Cond.code Lib.objectInit ⟨#[0xb1]⟩ 1 none ∈ mm_G := mm_wat 104 (by decide +kernel) rfl
theorem ac_int : Cond.arrayClass .int ∈ mm_G := mm_wat 178 (by decide +kernel) rfl
theorem ac_bool : Cond.arrayClass .boolean ∈ mm_G := mm_wat 1087 (by decide +kernel) rfl
theorem nt_copy : Cond.native arraycopyName ∈ mm_G := mm_wat 641 (by decide +kernel) rfl
theorem sx_copy : Cond.static arraycopyName ∈ mm_G := mm_wat 640 (by decide +kernel) rfl
theorem ii_System : Cond.initialized "java/lang/System" ∈ mm_G := mm_wat 95 (by decide +kernel) rfl
theorem fk_St_38 : Cond.fieldLink "java/lang/String" 38 "java/lang/String" "COMPACT_STRINGS" "Z" ∈ mm_G := mm_wat 536 (by decide +kernel) rfl
theorem fk_St_1053 : Cond.fieldLink "java/lang/String" 1053 "jdk/internal/util/Preconditions" "SIOOBE_FORMATTER" "Ljava/util/function/BiFunction;" ∈ mm_G := mm_wat 552 (by decide +kernel) rfl
theorem fk_St_9 : Cond.fieldLink "java/lang/String" 9 "java/lang/String" "value" "[B" ∈ mm_G := mm_wat 1421 (by decide +kernel) rfl
theorem fk_St_15 : Cond.fieldLink "java/lang/String" 15 "java/lang/String" "coder" "B" ∈ mm_G := mm_wat 1422 (by decide +kernel) rfl
end
section
/-! ===== super.m(..) where the superclass inherits m from the class above it ===== -/
section
variable {p : Program} {l : Launch} {e : Env} {R : Room} {s : State} {m : MethodId} {args : Array Value} {below : List Frame} {meth : Method} {c : Code}
theorem mm_callSI {T : State} {locs : List Loc} {cells slots : Nat} (X : Stand p l e R s m args below meth c T locs cells slots) (hexec : p.tables.exec = Jvm.exec) {own sc : String} {index : Nat} {y : MethodName} {bytes : ByteArray} {maxL : Nat} {ret : Option FieldType}
    (hown : s.vm.findClass own = some m.cls) (hlink : (Cond.methodLink own index ⟨sc, y.name, y.desc⟩).before args s = true) (hsame : (Cond.sameMethod sc y.cls y.name y.desc).before args s = true) (hsup : (Cond.superclass own sc).before args s = true) (hsup2 : (Cond.superclass sc y.cls).before args s = true)
    (hinst : (Cond.instanceMethod y).before args s = true) (hcode : (Cond.code y bytes maxL ret).before args s = true) (hno : y.name ≠ "<init>")
    {W : Nat} {Pre : Pt → Array Value → Prop} {Post : Pt → Array Value → Option Value → Pt → Prop} (hK : Back l R p e below s args y 3 W Pre Post)
    {b : Addr} {cellB : Cell} {kB : Class} (hcell : T.heap[b]? = some cellB) (hobj : cellB.vm.isStatics = false) (hkB : s.vm.classes[cellB.cls]? = some kB)
    {g : JFrame} (hg : g.method = m) (hsize : g.locals.size = c.maxLocals) {argsL rest : List Value} (hlen : ∀ sig, parseMethodDescriptor y.desc = some sig → argsL.length = sig.parameters.length)
    (hstack : g.stack = argsL.reverse ++ .ref b :: rest) (hW : 2 * g.monitorRoom + (rest.map fun v => v.category).sum ≤ W) (hdg : decode c.code g.pc = .ok (.invokespecial index, 3))
    (hpre : ∀ vm₁, s.WarmedH vm₁ → Pre ⟨T.setVm vm₁, locs, cells, slots⟩ (Value.ref b :: argsL).toArray) :
    ∃ (v : Option Value) (vm₁ : Vm) (B : Pt), s.WarmedH vm₁ ∧ Stand p l e R s m args below meth c B.U B.locs B.cells B.slots ∧ Post ⟨T.setVm vm₁, locs, cells, slots⟩ (Value.ref b :: argsL).toArray v B ∧
      ∀ target, Steps p.tables e below (B.U.setTop { g with pc := g.pc + 3, stack := v.toList ++ rest }) target → Steps p.tables e below (T.setTop g) target := by
  obtain ⟨mk, methM, hnamed, hmethM, hstM, habM⟩ := Cond.instanceMethod_spec hinst
  obtain ⟨methM', cM, hmethM', -, -, -, -, -, -, hsigM⟩ := Cond.code_spec hnamed hcode
  cases hmethM.symm.trans hmethM'
  obtain ⟨ps, dk, kp, hps, hdk, hkp, hsuper, -, -, hnid⟩ := Cond.superclass_spec hown hsup
  obtain ⟨p2, k2, kp2, hp2, hk2, hkp2, hsuper2, -, -, -⟩ := Cond.superclass_spec hps hsup2
  have hn : s.methodNamed? ⟨y.cls, y.name, y.desc⟩ = some mk := hnamed
  have hpm : p2 = mk.cls := Option.some.inj (hp2.symm.trans (findClass_of_methodNamed hnamed))
  have hsub : s.vm.isSubclass ps mk.cls = true := by
    have hlt : ps < s.vm.classes.size := (Array.getElem?_eq_some_iff.mp hk2).1
    unfold Vm.isSubclass
    obtain ⟨n, hn⟩ : ∃ n, s.vm.classes.size = n + 1 := Nat.exists_eq_succ_of_ne_zero (Nat.ne_of_gt (Nat.lt_of_le_of_lt (Nat.zero_le _) hlt))
    rw [hn]
    simp only [Vm.isSubclassAux, hk2, hsuper2, hpm]
    simp
  obtain ⟨vm₁, X₁, hstep₁⟩ := X.invokespecialUp hexec (x := ⟨sc, y.name, y.desc⟩) hown hlink hsame hn hmethM hstM habM hno hdk hnid hps hsuper hsub (a := b) (cell := cellB) hcell
    (fun z h => by rw [h] at hobj; cases hobj) hkB (g := g) hg (argsL := argsL) (rest := rest) (hlen _ hsigM) hstack hdg
  obtain ⟨v, B, X', hpost, hsteps⟩ := hK m meth c ⟨T.setVm vm₁, locs, cells, slots⟩ { g with stack := rest } (.invokespecial index) mk (Value.ref b :: argsL).toArray X₁ hg hsize hdg hW (X₁.named hnamed) (hpre vm₁ X₁.warmed)
  exact ⟨v, vm₁, B, X₁.warmed, X', hpost, fun target h => hstep₁ _ (by rw [doInvoke_state]; exact hsteps.trans h)⟩
end
section
variable {d : Nat} {M : mm_M} {mc ms : Nat} {Q : Option Value → mm_Hp → Prop} {nc ns pc : Nat} {lv : mm_L} {st : List Value} {h : mm_Hp}
theorem mm_cY {N : mm_M} {sc : String} {as : List Value} {q ci idx d' mc' ms' : Nat} {fs : List Nat} {r : vw_C} {Q' : Option Value → mm_Hp → Prop} (hN : mm_cw N as.length) (hlk : Cond.methodLink M.1.cls idx ⟨sc, N.1.name, N.1.desc⟩ ∈ mm_G) (hsm : Cond.sameMethod sc N.1.cls N.1.name N.1.desc ∈ mm_G) (hsu : Cond.superclass M.1.cls sc ∈ mm_G) (hsu2 : Cond.superclass sc N.1.cls ∈ mm_G) (hin : Cond.instanceMethod N.1 ∈ mm_G) (hni : N.1.name ≠ "<init>") (hrc : vwCl[ci]? = some r) (hq : h.1[q]? = some (.inr (ci, fs))) (hd : decode M.2.1 pc = .ok (.invokespecial idx, 3)) (hct : mm_Ct d' N (.ref q :: as) h mc' ms' Q') (hdd : d' + 1 ≤ d) (hm : nc + mc' ≤ mc ∧ ns + ms' ≤ ms) (hcat : (st.map Value.category).sum ≤ 8) (hvs : mm_vs h.1.length lv st)
    (kk : ∀ v h', Q' v h' → mm_W d M mc ms Q (nc + mc') (ns + ms') (pc + 3, lv, v.toList ++ st, h')) : mm_W d M mc ms Q nc ns (pc, lv, as.reverse ++ .ref q :: st, h) := by
  intro p l e s m args below meth c X ad0 n0 ad H locs ls C ha hn hR hS hl
  have C' := C
  obtain ⟨hx, hb, hml, hr, hlo, hown, hts, hnm, hT, hO⟩ := C'
  refine mm_after hvs kk C ha hn hS hl (a := ((.ref q :: as).map (mm_rv X ad)).toArray) ?_
  have hroom := mm_room (mc := mc) (ms := ms) (mc' := mc') (ms' := ms') hdd hN.2.2.2
  have hK : Back l (mm_R d mc ms) p e below s args N.1 3 8 (PreOf (mm_R d mc ms) mc' ms' (mm_P X ad (.ref q :: as) h)) (PostOf (mm_Q X ad h.1.length Q') mc' ms' (mm_A X)) := back_of (bytes := N.2.1) (maxL := N.2.2.1) (ret := N.2.2.2) (hct l X ad) mm_P_blind rfl rfl hroom.1 hroom.2 (pay_in hts (mm_good hN)) List.mem_cons_self (fun a' U hW => word_at hW (Or.inl (by first | rfl | simp [Cond.onTables, Cond.keeps, Cond.steady])) (hts _ hN.2.1))
  obtain ⟨cellB, hcB, hoB, hclB⟩ := va_recv hT.1 hR.1 hrc (mm_lay_at (X := X) (ad := ad) hq)
  obtain ⟨hfc, kB, hkB, -⟩ := (hT.1.1 ci r hrc).2
  have ecl : X.1.1 ci = cellB.cls := Option.some.inj (hfc.symm.trans hclB)
  rw [ecl] at hkB
  intro T hTh Xs
  have hlen : ∀ sig, parseMethodDescriptor N.1.desc = some sig → (as.map (mm_rv X ad)).length = sig.parameters.length := by
    intro sig hsig
    have h2 := hN.2.2.1.2.2
    rw [hsig] at h2
    rw [List.length_map]
    exact (Option.some.inj h2).symm
  have hstk : (F0 m pc ls ((as.reverse ++ .ref q :: st).map (mm_rv X ad))).stack = (as.map (mm_rv X ad)).reverse ++ .ref (ad q) :: st.map (mm_rv X ad) := by
    show ((as.reverse ++ .ref q :: st).map (mm_rv X ad)) = _
    rw [List.map_append, List.map_reverse]
    rfl
  have hlr := lv_room (m := m) (pc := pc) (ls := ls) (rest := []) (mm_cats (X := X) (ad := ad) hcat)
  obtain ⟨v, vm₁, ⟨U', l2, c2, s2⟩, hW₁, X', ⟨g', mk, t, Lo, e1, e2, hqq, h1, hL, h2, h3⟩, stp⟩ := mm_callSI Xs hx (bytes := N.2.1) (maxL := N.2.2.1) (ret := N.2.2.2) hown (hts _ hlk) (hts _ hsm) (hts _ hsu) (hts _ hsu2) (hts _ hin) (hts _ hN.1) hni hK (by rw [hTh]; exact hcB) hoB hkB (g := F0 m pc ls ((as.reverse ++ .ref q :: st).map (mm_rv X ad))) rfl (hl.2.1.trans hml.symm) (argsL := as.map (mm_rv X ad)) (rest := st.map (mm_rv X ad)) hlen hstk hlr (by rw [hb]; exact hd)
    (fun vm₁ hW₁ => ⟨hm.1, hm.2, mm_pre (as := .ref q :: as) hT hO hR hS (T.setVm vm₁) hTh hW₁⟩)
  dsimp only [Pt.U, Pt.locs, Pt.cells, Pt.slots] at X' e1 e2 h1 h2 h3 stp
  subst h1; subst h2; subst h3
  exact ⟨v, (T.setVm vm₁).calling g' mk (Value.ref (ad q) :: as.map (mm_rv X ad)).toArray, t, U', Lo, hTh, X', hL, e1, e2, hqq, stp⟩
end
end
section
/-! ===== Math.max, Math.min; plain names ===== -/
theorem pl_Bo : plainName "SchoolOnRaft$Board" = true := by decide +kernel
theorem pl_Hk : plainName "SchoolOnRaft$HardKind" = true := by decide +kernel
theorem pl_Kd : plainName "SchoolOnRaft$Kind" = true := by decide +kernel
theorem pl_Li : plainName "SchoolOnRaft$LightKind" = true := by decide +kernel
theorem pl_Lo : plainName "SchoolOnRaft$LongKind" = true := by decide +kernel
theorem pl_Pk : plainName "SchoolOnRaft$ProofKind" = true := by decide +kernel
theorem pl_Re : plainName "SchoolOnRaft$Reader" = true := by decide +kernel
theorem pl_Se : plainName "SchoolOnRaft$Search" = true := by decide +kernel
theorem pl_So : plainName "SchoolOnRaft$SongKind" = true := by decide +kernel
theorem pl_Sp : plainName "SchoolOnRaft$Spring" = true := by decide +kernel
theorem pl_Te : plainName "SchoolOnRaft$Text" = true := by decide +kernel
theorem pl_Sc : plainName "SchoolOnRaft" = true := by decide +kernel
theorem pl_Mo : plainName "SchoolOnRaftModel" = true := by decide +kernel
theorem pl_Ar : plainName "java/util/Arrays" = true := by decide +kernel
theorem pl_In : plainName "java/lang/Integer" = true := by decide +kernel
theorem pl_St : plainName "java/lang/String" = true := by decide +kernel
theorem pl_Sl : plainName "java/lang/StringLatin1" = true := by decide +kernel
theorem pl_Pr : plainName "jdk/internal/util/Preconditions" = true := by decide +kernel
theorem pl_La : plainName "SchoolOnRaftLaw" = true := by decide +kernel
section
variable {d : Nat} {M : mm_M} {mc ms : Nat} {Q : Option Value → mm_Hp → Prop} {nc ns pc : Nat} {lv : mm_L} {st : List Value} {h : mm_Hp}
theorem mm_max_c : Cond.code Lib.Math.max.name Lib.Math.max.code 2 (some .int) ∈ mm_G := by
  have h := cw_Ma_max.1
  have e : Lib.Math.max.code = M_Ma_max.2.1 := by decide +kernel
  rw [e]
  exact h
theorem mm_min_c : Cond.code Lib.Math.min.name Lib.Math.min.code 2 (some .int) ∈ mm_G := by
  have h := cw_Ma_min.1
  have e : Lib.Math.min.code = M_Ma_min.2.1 := by decide +kernel
  rw [e]
  exact h
theorem mm_max {x y : Int32} {idx : Nat} (hlk : Cond.methodLink M.1.cls idx M_Ma_max.1 ∈ mm_G) (hd : decode M.2.1 pc = .ok (.invokestatic idx, 3)) (hdd : 1 ≤ d) (hm : nc ≤ mc ∧ ns ≤ ms) (hcat : (st.map Value.category).sum ≤ 8) (kk : mm_W d M mc ms Q nc ns (pc + 3, lv, .int (if x < y then y else x) :: st, h)) : mm_W d M mc ms Q nc ns (pc, lv, .int y :: .int x :: st, h) := by
  intro p l e s m args below meth c X ad0 n0 ad H locs ls C ha hn hR hS hl
  have k' := kk p l e s m args below meth c X ad0 n0 ad H locs ls C ha hn hR hS hl
  obtain ⟨hx, hb, hml, hr, hlo, hown, hts, hnm, hT, hO⟩ := C
  have h8 := mm_cats (X := X) (ad := ad) hcat
  exact va_mmax hx hb (by rw [hml]; exact hl.2.1.symm) hown (hts _ hlk) (hts _ sx_Ma_max) (hts _ cw_Ma_max.2.1) (hts _ mm_max_c) hdd (by show _ ≤ 41 * d + 32; omega) hm.1 hm.2 hd k'
theorem mm_min {x y : Int32} {idx : Nat} (hlk : Cond.methodLink M.1.cls idx M_Ma_min.1 ∈ mm_G) (hd : decode M.2.1 pc = .ok (.invokestatic idx, 3)) (hdd : 1 ≤ d) (hm : nc ≤ mc ∧ ns ≤ ms) (hcat : (st.map Value.category).sum ≤ 8) (kk : mm_W d M mc ms Q nc ns (pc + 3, lv, .int (if y < x then y else x) :: st, h)) : mm_W d M mc ms Q nc ns (pc, lv, .int y :: .int x :: st, h) := by
  intro p l e s m args below meth c X ad0 n0 ad H locs ls C ha hn hR hS hl
  have k' := kk p l e s m args below meth c X ad0 n0 ad H locs ls C ha hn hR hS hl
  obtain ⟨hx, hb, hml, hr, hlo, hown, hts, hnm, hT, hO⟩ := C
  have h8 := mm_cats (X := X) (ad := ad) hcat
  exact va_mmin hx hb (by rw [hml]; exact hl.2.1.symm) hown (hts _ hlk) (hts _ sx_Ma_min) (hts _ cw_Ma_min.2.1) (hts _ mm_min_c) hdd (by show _ ≤ 41 * d + 32; omega) hm.1 hm.2 hd k'
end
/-- some locals are forgotten -/
def mm_drop (lv : mm_L) : List Nat → mm_L
  | [] => lv
  | i :: is => mm_drop (lv.set i none) is
theorem mm_lh.none {X : mm_X} {ad : Nat → Nat} {ls : Array Slot} {nL : Nat} {lv : mm_L} (h : mm_lh X ad ls nL lv) (i : Nat) : mm_lh X ad ls nL (lv.set i none) := by
  refine ⟨by rw [List.length_set]; exact h.1, h.2.1, h.2.2.1, fun j v hv => h.2.2.2 j v ?_⟩
  by_cases e : i = j
  · subst e
    rw [List.getElem?_set_self (by have := (List.getElem?_eq_some_iff.mp hv).1; rwa [List.length_set] at this)] at hv
    cases hv
  · rwa [List.getElem?_set_ne e] at hv
theorem mm_lh.drop {X : mm_X} {ad : Nat → Nat} {ls : Array Slot} {nL : Nat} (is : List Nat) : ∀ {lv : mm_L}, mm_lh X ad ls nL lv → mm_lh X ad ls nL (mm_drop lv is) := by
  induction is with
  | nil => intro lv h; exact h
  | cons i is ih => intro lv h; exact ih (h.none i)
theorem mm_fg {d : Nat} {M : mm_M} {mc ms : Nat} {Q : Option Value → mm_Hp → Prop} {nc ns pc : Nat} {lv : mm_L} {st : List Value} {h : mm_Hp} (is : List Nat) (k : mm_W d M mc ms Q nc ns (pc, mm_drop lv is, st, h)) : mm_W d M mc ms Q nc ns (pc, lv, st, h) := by
  intro p l e s m args below meth c X ad0 n0 ad H locs ls C ha hn hR hS hl
  exact k p l e s m args below meth c X ad0 n0 ad H locs ls C ha hn hR hS (mm_lh.drop is hl)
/-- a switch, its target known -/
theorem mm_sw {d : Nat} {M : mm_M} {mc ms : Nat} {Q : Option Value → mm_Hp → Prop} {nc ns pc : Nat} {lv : mm_L} {st : List Value} {h : mm_Hp} {x : Int32} {dflt lo hi : Int} {offs : Array Int} {len tgt : Nat} (hd : decode M.2.1 pc = .ok (.tableswitch dflt lo hi offs, len)) (ht : ((x.toInt < lo ∨ hi < x.toInt) ∧ (pc : Int) + dflt = tgt) ∨ ((¬ (x.toInt < lo ∨ hi < x.toInt)) ∧ ∃ off, offs[(x.toInt - lo).toNat]? = some off ∧ (pc : Int) + off = tgt)) (k : mm_W d M mc ms Q nc ns (tgt, lv, st, h)) : mm_W d M mc ms Q nc ns (pc, lv, .int x :: st, h) := by
  intro p l e s m args below meth c X ad0 n0 ad H locs ls C ha hn hR hS hl
  have k' := k p l e s m args below meth c X ad0 n0 ad H locs ls C ha hn hR hS hl
  rcases ht with ⟨h1, h2⟩ | ⟨h1, off, h2, h3⟩
  · exact lv_tableOut C.1 C.2.1 hd h1 h2 k'
  · exact lv_tableIn C.1 C.2.1 hd (fun q => h1 (Or.inl q)) (fun q => h1 (Or.inr q)) h2 h3 k'
end
section
/-! ===== the layout of the two objects; small methods ===== -/
def hp_SH : List mm_Sh := [.inr (11, [4, 28, 34, 37, 0, 46, 47, 48, 53, 54]), .inr (9, [5, 14, 0, 15, 16, 17, 18]), .inr (0, [0, 0, 0, 6, 7, 8, 9, 10, 11, 12, 13]), .inl (0, 4), .inl (0, 4), .inl (0, 4), .inl (0, 6), .inl (0, 6), .inl (0, 6), .inl (0, 6), .inl (0, 6), .inl (2, 6), .inl (3, 6), .inl (0, 6), .inl (0, 160), .inr (10, [19, 20, 21]), .inl (0, 1), .inl (0, 1), .inl (0, 1), .inr (2, []), .inr (4, []), .inr (3, []), .inr (1, []), .inr (8, []), .inr (5, []), .inr (7, [29, 0, 0, 30, 31, 32, 33]), .inl (0, 6), .inl (0, 6), .inl (0, 42), .inl (0, 5040), .inl (0, 840), .inr (6, [35, 0, 0, 0, 0, 36, 0]), .inl (0, 160), .inl (0, 160), .inr (0, [0, 0, 0, 38, 39, 40, 41, 42, 43, 44, 45]), .inl (0, 4), .inl (0, 4), .inl (0, 4), .inl (0, 6), .inl (0, 6), .inl (0, 6), .inl (0, 6), .inl (0, 6), .inl (0, 6), .inl (0, 6), .inl (4, 4), .inl (0, 40), .inl (0, 40), .inl (0, 40), .inl (0, 40), .inl (0, 4), .inl (0, 4), .inr (12, [0, 56, 57, 0, 0, 58, 0, 59, 60, 61, 0, 62, 63, 64, 0, 65, 0, 0, 0, 0, 0, 0, 0, 0, 0, 0, 0, 1, 0, 0, 0, 66, 67, 68, 69, 70, 71, 72, 73, 0, 74, 75, 0, 0, 0, 76, 77, 78, 79]), .inl (0, 960), .inl (0, 6), .inl (0, 160), .inl (0, 4), .inl (0, 4), .inl (0, 4), .inl (0, 6), .inl (0, 6), .inl (0, 6), .inl (0, 12), .inl (0, 5040), .inl (0, 840), .inl (0, 28), .inl (0, 28), .inl (0, 6), .inl (0, 6), .inl (0, 15625), .inl (0, 6), .inl (0, 6), .inl (0, 38), .inl (1, 4), .inl (0, 4), .inl (0, 4), .inl (0, 160)]
theorem hp_len (dy : List mm_Sh) : 77 ≤ (hp_SH ++ dy).length := by rw [List.length_append]; exact Nat.le_add_right _ _
theorem mm_vi {i : Int32} {n : Nat} (h : (!(decide (i < 0)) && decide (i.toNatClampNeg < n)) = true) : vp_in i n := by
  simp only [Bool.and_eq_true, Bool.not_eq_true', decide_eq_false_iff_not, decide_eq_true_eq] at h
  exact fun q => q.elim h.1 (fun q => absurd h.2 (Nat.not_lt.mpr q))
def f_Sc_isBend (x : Int32) : Int32 := (if x < 0 then 0 else (if 6 ≤ x then 0 else 1))
theorem zo_Sc_isBend (x : Int32) : f_Sc_isBend x = 0 ∨ f_Sc_isBend x = 1 := by
  unfold f_Sc_isBend
  repeat' split
  all_goals first | exact Or.inl rfl | exact Or.inr rfl
theorem ct_Sc_isBend (h : mm_Hp) (x : Int32) : mm_Ct 1 M_Sc_isBend [.int x] h 0 0 (fun v h' => v = some (.int (f_Sc_isBend x)) ∧ h' = h) := by
  refine mm_start pl_Sc (Nat.le_of_ble_eq_true rfl) ?_
  refine mm_I ok_Sc_isBend 0 1 1 [some (.int x)] [.int x] h [] rfl trivial rfl rfl (fun h1 => ?_) (fun h1 => ?_)
  · refine mm_B ok_Sc_isBend 7 1 (15, [some (.int x)], [.int 0], h) [] rfl trivial ?_
    exact mm_rz rfl (mm_at ok_Sc_isBend (i := 8) rfl).1 ⟨Nat.le_refl _, Nat.le_refl _⟩ (Or.inl rfl) ⟨congrArg some (congrArg Value.int (by simp only [f_Sc_isBend, if_pos h1])), rfl⟩
  · refine mm_I ok_Sc_isBend 2 2 7 [some (.int x)] [.int 6, .int x] h [] rfl trivial rfl rfl (fun h2 => ?_) (fun h2 => ?_)
    · refine mm_B ok_Sc_isBend 7 1 (15, [some (.int x)], [.int 0], h) [] rfl trivial ?_
      exact mm_rz rfl (mm_at ok_Sc_isBend (i := 8) rfl).1 ⟨Nat.le_refl _, Nat.le_refl _⟩ (Or.inl rfl) ⟨congrArg some (congrArg Value.int (by simp only [f_Sc_isBend, if_neg h1, if_pos h2])), rfl⟩
    · refine mm_B ok_Sc_isBend 5 2 (15, [some (.int x)], [.int 1], h) [] rfl trivial ?_
      exact mm_rz rfl (mm_at ok_Sc_isBend (i := 8) rfl).1 ⟨Nat.le_refl _, Nat.le_refl _⟩ (Or.inr rfl) ⟨congrArg some (congrArg Value.int (by simp only [f_Sc_isBend, if_neg h1, if_neg h2])), rfl⟩

def f_Sc_isRaft (x : Int32) : Int32 := (if x = 0 then 1 else (if x = 1 then 1 else 0))
theorem zo_Sc_isRaft (x : Int32) : f_Sc_isRaft x = 0 ∨ f_Sc_isRaft x = 1 := by
  unfold f_Sc_isRaft
  repeat' split
  all_goals first | exact Or.inl rfl | exact Or.inr rfl
theorem ct_Sc_isRaft (h : mm_Hp) (x : Int32) : mm_Ct 1 M_Sc_isRaft [.int x] h 0 0 (fun v h' => v = some (.int (f_Sc_isRaft x)) ∧ h' = h) := by
  refine mm_start pl_Sc (Nat.le_of_ble_eq_true rfl) ?_
  refine mm_I ok_Sc_isRaft 0 1 1 [some (.int x)] [.int x] h [] rfl trivial rfl rfl (fun h1 => ?_) (fun h1 => ?_)
  · refine mm_B ok_Sc_isRaft 5 2 (14, [some (.int x)], [.int 1], h) [] rfl trivial ?_
    exact mm_rz rfl (mm_at ok_Sc_isRaft (i := 8) rfl).1 ⟨Nat.le_refl _, Nat.le_refl _⟩ (Or.inr rfl) ⟨congrArg some (congrArg Value.int (by simp only [f_Sc_isRaft, if_pos h1])), rfl⟩
  · refine mm_I ok_Sc_isRaft 2 2 6 [some (.int x)] [.int 1, .int x] h [] rfl trivial rfl rfl (fun h2 => ?_) (fun h2 => ?_)
    · refine mm_B ok_Sc_isRaft 7 1 (14, [some (.int x)], [.int 0], h) [] rfl trivial ?_
      exact mm_rz rfl (mm_at ok_Sc_isRaft (i := 8) rfl).1 ⟨Nat.le_refl _, Nat.le_refl _⟩ (Or.inl rfl) ⟨congrArg some (congrArg Value.int (by simp only [f_Sc_isRaft, if_neg h1, if_neg h2])), rfl⟩
    · refine mm_B ok_Sc_isRaft 5 2 (14, [some (.int x)], [.int 1], h) [] rfl trivial ?_
      exact mm_rz rfl (mm_at ok_Sc_isRaft (i := 8) rfl).1 ⟨Nat.le_refl _, Nat.le_refl _⟩ (Or.inr rfl) ⟨congrArg some (congrArg Value.int (by simp only [f_Sc_isRaft, if_neg h1, if_pos h2])), rfl⟩

def f_Sc_isKind (x : Int32) : Int32 := (if x < 0 then 0 else (if 6 ≤ x then 0 else 1))
theorem zo_Sc_isKind (x : Int32) : f_Sc_isKind x = 0 ∨ f_Sc_isKind x = 1 := by
  unfold f_Sc_isKind
  repeat' split
  all_goals first | exact Or.inl rfl | exact Or.inr rfl
theorem ct_Sc_isKind (h : mm_Hp) (x : Int32) : mm_Ct 1 M_Sc_isKind [.int x] h 0 0 (fun v h' => v = some (.int (f_Sc_isKind x)) ∧ h' = h) := by
  refine mm_start pl_Sc (Nat.le_of_ble_eq_true rfl) ?_
  refine mm_I ok_Sc_isKind 0 1 1 [some (.int x)] [.int x] h [] rfl trivial rfl rfl (fun h1 => ?_) (fun h1 => ?_)
  · refine mm_B ok_Sc_isKind 7 1 (15, [some (.int x)], [.int 0], h) [] rfl trivial ?_
    exact mm_rz rfl (mm_at ok_Sc_isKind (i := 8) rfl).1 ⟨Nat.le_refl _, Nat.le_refl _⟩ (Or.inl rfl) ⟨congrArg some (congrArg Value.int (by simp only [f_Sc_isKind, if_pos h1])), rfl⟩
  · refine mm_I ok_Sc_isKind 2 2 7 [some (.int x)] [.int 6, .int x] h [] rfl trivial rfl rfl (fun h2 => ?_) (fun h2 => ?_)
    · refine mm_B ok_Sc_isKind 7 1 (15, [some (.int x)], [.int 0], h) [] rfl trivial ?_
      exact mm_rz rfl (mm_at ok_Sc_isKind (i := 8) rfl).1 ⟨Nat.le_refl _, Nat.le_refl _⟩ (Or.inl rfl) ⟨congrArg some (congrArg Value.int (by simp only [f_Sc_isKind, if_neg h1, if_pos h2])), rfl⟩
    · refine mm_B ok_Sc_isKind 5 2 (15, [some (.int x)], [.int 1], h) [] rfl trivial ?_
      exact mm_rz rfl (mm_at ok_Sc_isKind (i := 8) rfl).1 ⟨Nat.le_refl _, Nat.le_refl _⟩ (Or.inr rfl) ⟨congrArg some (congrArg Value.int (by simp only [f_Sc_isKind, if_neg h1, if_neg h2])), rfl⟩

def f_Sc_isNumber (x : Int32) : Int32 := (if x < 0 then 0 else (if 9 < x then 0 else 1))
theorem zo_Sc_isNumber (x : Int32) : f_Sc_isNumber x = 0 ∨ f_Sc_isNumber x = 1 := by
  unfold f_Sc_isNumber
  repeat' split
  all_goals first | exact Or.inl rfl | exact Or.inr rfl
theorem ct_Sc_isNumber (h : mm_Hp) (x : Int32) : mm_Ct 1 M_Sc_isNumber [.int x] h 0 0 (fun v h' => v = some (.int (f_Sc_isNumber x)) ∧ h' = h) := by
  refine mm_start pl_Sc (Nat.le_of_ble_eq_true rfl) ?_
  refine mm_I ok_Sc_isNumber 0 1 1 [some (.int x)] [.int x] h [] rfl trivial rfl rfl (fun h1 => ?_) (fun h1 => ?_)
  · refine mm_B ok_Sc_isNumber 7 1 (15, [some (.int x)], [.int 0], h) [] rfl trivial ?_
    exact mm_rz rfl (mm_at ok_Sc_isNumber (i := 8) rfl).1 ⟨Nat.le_refl _, Nat.le_refl _⟩ (Or.inl rfl) ⟨congrArg some (congrArg Value.int (by simp only [f_Sc_isNumber, if_pos h1])), rfl⟩
  · refine mm_I ok_Sc_isNumber 2 2 7 [some (.int x)] [.int 9, .int x] h [] rfl trivial rfl rfl (fun h2 => ?_) (fun h2 => ?_)
    · refine mm_B ok_Sc_isNumber 7 1 (15, [some (.int x)], [.int 0], h) [] rfl trivial ?_
      exact mm_rz rfl (mm_at ok_Sc_isNumber (i := 8) rfl).1 ⟨Nat.le_refl _, Nat.le_refl _⟩ (Or.inl rfl) ⟨congrArg some (congrArg Value.int (by simp only [f_Sc_isNumber, if_neg h1, if_pos h2])), rfl⟩
    · refine mm_B ok_Sc_isNumber 5 2 (15, [some (.int x)], [.int 1], h) [] rfl trivial ?_
      exact mm_rz rfl (mm_at ok_Sc_isNumber (i := 8) rfl).1 ⟨Nat.le_refl _, Nat.le_refl _⟩ (Or.inr rfl) ⟨congrArg some (congrArg Value.int (by simp only [f_Sc_isNumber, if_neg h1, if_neg h2])), rfl⟩

def f_Sc_isAge (x : Int32) : Int32 := (if x < 5 then 0 else (if 14 < x then 0 else 1))
theorem zo_Sc_isAge (x : Int32) : f_Sc_isAge x = 0 ∨ f_Sc_isAge x = 1 := by
  unfold f_Sc_isAge
  repeat' split
  all_goals first | exact Or.inl rfl | exact Or.inr rfl
theorem ct_Sc_isAge (h : mm_Hp) (x : Int32) : mm_Ct 1 M_Sc_isAge [.int x] h 0 0 (fun v h' => v = some (.int (f_Sc_isAge x)) ∧ h' = h) := by
  refine mm_start pl_Sc (Nat.le_of_ble_eq_true rfl) ?_
  refine mm_I ok_Sc_isAge 0 2 2 [some (.int x)] [.int 5, .int x] h [] rfl trivial rfl rfl (fun h1 => ?_) (fun h1 => ?_)
  · refine mm_B ok_Sc_isAge 8 1 (16, [some (.int x)], [.int 0], h) [] rfl trivial ?_
    exact mm_rz rfl (mm_at ok_Sc_isAge (i := 9) rfl).1 ⟨Nat.le_refl _, Nat.le_refl _⟩ (Or.inl rfl) ⟨congrArg some (congrArg Value.int (by simp only [f_Sc_isAge, if_pos h1])), rfl⟩
  · refine mm_I ok_Sc_isAge 3 2 8 [some (.int x)] [.int 14, .int x] h [] rfl trivial rfl rfl (fun h2 => ?_) (fun h2 => ?_)
    · refine mm_B ok_Sc_isAge 8 1 (16, [some (.int x)], [.int 0], h) [] rfl trivial ?_
      exact mm_rz rfl (mm_at ok_Sc_isAge (i := 9) rfl).1 ⟨Nat.le_refl _, Nat.le_refl _⟩ (Or.inl rfl) ⟨congrArg some (congrArg Value.int (by simp only [f_Sc_isAge, if_neg h1, if_pos h2])), rfl⟩
    · refine mm_B ok_Sc_isAge 6 2 (16, [some (.int x)], [.int 1], h) [] rfl trivial ?_
      exact mm_rz rfl (mm_at ok_Sc_isAge (i := 9) rfl).1 ⟨Nat.le_refl _, Nat.le_refl _⟩ (Or.inr rfl) ⟨congrArg some (congrArg Value.int (by simp only [f_Sc_isAge, if_neg h1, if_neg h2])), rfl⟩

def f_Sc_isWater (x : Int32) : Int32 := (if x < 0 then 0 else (if 10 < x then 0 else 1))
theorem zo_Sc_isWater (x : Int32) : f_Sc_isWater x = 0 ∨ f_Sc_isWater x = 1 := by
  unfold f_Sc_isWater
  repeat' split
  all_goals first | exact Or.inl rfl | exact Or.inr rfl
theorem ct_Sc_isWater (h : mm_Hp) (x : Int32) : mm_Ct 1 M_Sc_isWater [.int x] h 0 0 (fun v h' => v = some (.int (f_Sc_isWater x)) ∧ h' = h) := by
  refine mm_start pl_Sc (Nat.le_of_ble_eq_true rfl) ?_
  refine mm_I ok_Sc_isWater 0 1 1 [some (.int x)] [.int x] h [] rfl trivial rfl rfl (fun h1 => ?_) (fun h1 => ?_)
  · refine mm_B ok_Sc_isWater 7 1 (15, [some (.int x)], [.int 0], h) [] rfl trivial ?_
    exact mm_rz rfl (mm_at ok_Sc_isWater (i := 8) rfl).1 ⟨Nat.le_refl _, Nat.le_refl _⟩ (Or.inl rfl) ⟨congrArg some (congrArg Value.int (by simp only [f_Sc_isWater, if_pos h1])), rfl⟩
  · refine mm_I ok_Sc_isWater 2 2 7 [some (.int x)] [.int 10, .int x] h [] rfl trivial rfl rfl (fun h2 => ?_) (fun h2 => ?_)
    · refine mm_B ok_Sc_isWater 7 1 (15, [some (.int x)], [.int 0], h) [] rfl trivial ?_
      exact mm_rz rfl (mm_at ok_Sc_isWater (i := 8) rfl).1 ⟨Nat.le_refl _, Nat.le_refl _⟩ (Or.inl rfl) ⟨congrArg some (congrArg Value.int (by simp only [f_Sc_isWater, if_neg h1, if_pos h2])), rfl⟩
    · refine mm_B ok_Sc_isWater 5 2 (15, [some (.int x)], [.int 1], h) [] rfl trivial ?_
      exact mm_rz rfl (mm_at ok_Sc_isWater (i := 8) rfl).1 ⟨Nat.le_refl _, Nat.le_refl _⟩ (Or.inr rfl) ⟨congrArg some (congrArg Value.int (by simp only [f_Sc_isWater, if_neg h1, if_neg h2])), rfl⟩

def f_Sc_isSheet (x : Int32) : Int32 := (if x < 0 then 0 else (if 4 ≤ x then 0 else 1))
theorem zo_Sc_isSheet (x : Int32) : f_Sc_isSheet x = 0 ∨ f_Sc_isSheet x = 1 := by
  unfold f_Sc_isSheet
  repeat' split
  all_goals first | exact Or.inl rfl | exact Or.inr rfl
theorem ct_Sc_isSheet (h : mm_Hp) (x : Int32) : mm_Ct 1 M_Sc_isSheet [.int x] h 0 0 (fun v h' => v = some (.int (f_Sc_isSheet x)) ∧ h' = h) := by
  refine mm_start pl_Sc (Nat.le_of_ble_eq_true rfl) ?_
  refine mm_I ok_Sc_isSheet 0 1 1 [some (.int x)] [.int x] h [] rfl trivial rfl rfl (fun h1 => ?_) (fun h1 => ?_)
  · refine mm_B ok_Sc_isSheet 7 1 (14, [some (.int x)], [.int 0], h) [] rfl trivial ?_
    exact mm_rz rfl (mm_at ok_Sc_isSheet (i := 8) rfl).1 ⟨Nat.le_refl _, Nat.le_refl _⟩ (Or.inl rfl) ⟨congrArg some (congrArg Value.int (by simp only [f_Sc_isSheet, if_pos h1])), rfl⟩
  · refine mm_I ok_Sc_isSheet 2 2 6 [some (.int x)] [.int 4, .int x] h [] rfl trivial rfl rfl (fun h2 => ?_) (fun h2 => ?_)
    · refine mm_B ok_Sc_isSheet 7 1 (14, [some (.int x)], [.int 0], h) [] rfl trivial ?_
      exact mm_rz rfl (mm_at ok_Sc_isSheet (i := 8) rfl).1 ⟨Nat.le_refl _, Nat.le_refl _⟩ (Or.inl rfl) ⟨congrArg some (congrArg Value.int (by simp only [f_Sc_isSheet, if_neg h1, if_pos h2])), rfl⟩
    · refine mm_B ok_Sc_isSheet 5 2 (14, [some (.int x)], [.int 1], h) [] rfl trivial ?_
      exact mm_rz rfl (mm_at ok_Sc_isSheet (i := 8) rfl).1 ⟨Nat.le_refl _, Nat.le_refl _⟩ (Or.inr rfl) ⟨congrArg some (congrArg Value.int (by simp only [f_Sc_isSheet, if_neg h1, if_neg h2])), rfl⟩

def f_Sc_isSort (x : Int32) : Int32 := (if x < 0 then 0 else (if 3 ≤ x then 0 else 1))
theorem zo_Sc_isSort (x : Int32) : f_Sc_isSort x = 0 ∨ f_Sc_isSort x = 1 := by
  unfold f_Sc_isSort
  repeat' split
  all_goals first | exact Or.inl rfl | exact Or.inr rfl
theorem ct_Sc_isSort (h : mm_Hp) (x : Int32) : mm_Ct 1 M_Sc_isSort [.int x] h 0 0 (fun v h' => v = some (.int (f_Sc_isSort x)) ∧ h' = h) := by
  refine mm_start pl_Sc (Nat.le_of_ble_eq_true rfl) ?_
  refine mm_I ok_Sc_isSort 0 1 1 [some (.int x)] [.int x] h [] rfl trivial rfl rfl (fun h1 => ?_) (fun h1 => ?_)
  · refine mm_B ok_Sc_isSort 7 1 (14, [some (.int x)], [.int 0], h) [] rfl trivial ?_
    exact mm_rz rfl (mm_at ok_Sc_isSort (i := 8) rfl).1 ⟨Nat.le_refl _, Nat.le_refl _⟩ (Or.inl rfl) ⟨congrArg some (congrArg Value.int (by simp only [f_Sc_isSort, if_pos h1])), rfl⟩
  · refine mm_I ok_Sc_isSort 2 2 6 [some (.int x)] [.int 3, .int x] h [] rfl trivial rfl rfl (fun h2 => ?_) (fun h2 => ?_)
    · refine mm_B ok_Sc_isSort 7 1 (14, [some (.int x)], [.int 0], h) [] rfl trivial ?_
      exact mm_rz rfl (mm_at ok_Sc_isSort (i := 8) rfl).1 ⟨Nat.le_refl _, Nat.le_refl _⟩ (Or.inl rfl) ⟨congrArg some (congrArg Value.int (by simp only [f_Sc_isSort, if_neg h1, if_pos h2])), rfl⟩
    · refine mm_B ok_Sc_isSort 5 2 (14, [some (.int x)], [.int 1], h) [] rfl trivial ?_
      exact mm_rz rfl (mm_at ok_Sc_isSort (i := 8) rfl).1 ⟨Nat.le_refl _, Nat.le_refl _⟩ (Or.inr rfl) ⟨congrArg some (congrArg Value.int (by simp only [f_Sc_isSort, if_neg h1, if_neg h2])), rfl⟩

def f_Sc_areLessons (x y : Int32) : Int32 := (if ((x.toUInt32 >>> (y.toUInt32 &&& Int32.toUInt32 31)).toInt32) = 0 then 1 else 0)
theorem zo_Sc_areLessons (x y : Int32) : f_Sc_areLessons x y = 0 ∨ f_Sc_areLessons x y = 1 := by
  unfold f_Sc_areLessons
  repeat' split
  all_goals first | exact Or.inl rfl | exact Or.inr rfl
theorem ct_Sc_areLessons (h : mm_Hp) (x y : Int32) : mm_Ct 1 M_Sc_areLessons [.int x, .int y] h 0 0 (fun v h' => v = some (.int (f_Sc_areLessons x y)) ∧ h' = h) := by
  refine mm_start pl_Sc (Nat.le_of_ble_eq_true rfl) ?_
  refine mm_I ok_Sc_areLessons 0 3 3 [some (.int x), some (.int y)] [.int ((x.toUInt32 >>> (y.toUInt32 &&& Int32.toUInt32 31)).toInt32)] h [] rfl trivial rfl rfl (fun h1 => ?_) (fun h1 => ?_)
  · refine mm_B ok_Sc_areLessons 6 1 (11, [some (.int x), some (.int y)], [.int 0], h) [] rfl trivial ?_
    exact mm_rz rfl (mm_at ok_Sc_areLessons (i := 7) rfl).1 ⟨Nat.le_refl _, Nat.le_refl _⟩ (Or.inl rfl) ⟨congrArg some (congrArg Value.int (by simp only [f_Sc_areLessons, if_neg h1])), rfl⟩
  · refine mm_B ok_Sc_areLessons 4 2 (11, [some (.int x), some (.int y)], [.int 1], h) [] rfl trivial ?_
    exact mm_rz rfl (mm_at ok_Sc_areLessons (i := 7) rfl).1 ⟨Nat.le_refl _, Nat.le_refl _⟩ (Or.inr rfl) ⟨congrArg some (congrArg Value.int (by simp only [f_Sc_areLessons, if_pos h1])), rfl⟩

def f_Sc_isStretch (x y z : Int32) : Int32 := (if x < 0 then 0 else (if y < 0 then 0 else (if z < y then 0 else (if (z - y) < x then 0 else 1))))
theorem zo_Sc_isStretch (x y z : Int32) : f_Sc_isStretch x y z = 0 ∨ f_Sc_isStretch x y z = 1 := by
  unfold f_Sc_isStretch
  repeat' split
  all_goals first | exact Or.inl rfl | exact Or.inr rfl
theorem ct_Sc_isStretch (h : mm_Hp) (x y z : Int32) : mm_Ct 1 M_Sc_isStretch [.int x, .int y, .int z] h 0 0 (fun v h' => v = some (.int (f_Sc_isStretch x y z)) ∧ h' = h) := by
  refine mm_start pl_Sc (Nat.le_of_ble_eq_true rfl) ?_
  refine mm_I ok_Sc_isStretch 0 1 1 [some (.int x), some (.int y), some (.int z)] [.int x] h [] rfl trivial rfl rfl (fun h1 => ?_) (fun h1 => ?_)
  · refine mm_B ok_Sc_isStretch 14 1 (25, [some (.int x), some (.int y), some (.int z)], [.int 0], h) [] rfl trivial ?_
    exact mm_rz rfl (mm_at ok_Sc_isStretch (i := 15) rfl).1 ⟨Nat.le_refl _, Nat.le_refl _⟩ (Or.inl rfl) ⟨congrArg some (congrArg Value.int (by simp only [f_Sc_isStretch, if_pos h1])), rfl⟩
  · refine mm_I ok_Sc_isStretch 2 1 5 [some (.int x), some (.int y), some (.int z)] [.int y] h [] rfl trivial rfl rfl (fun h2 => ?_) (fun h2 => ?_)
    · refine mm_B ok_Sc_isStretch 14 1 (25, [some (.int x), some (.int y), some (.int z)], [.int 0], h) [] rfl trivial ?_
      exact mm_rz rfl (mm_at ok_Sc_isStretch (i := 15) rfl).1 ⟨Nat.le_refl _, Nat.le_refl _⟩ (Or.inl rfl) ⟨congrArg some (congrArg Value.int (by simp only [f_Sc_isStretch, if_neg h1, if_pos h2])), rfl⟩
    · refine mm_I ok_Sc_isStretch 4 2 10 [some (.int x), some (.int y), some (.int z)] [.int z, .int y] h [] rfl trivial rfl rfl (fun h3 => ?_) (fun h3 => ?_)
      · refine mm_B ok_Sc_isStretch 14 1 (25, [some (.int x), some (.int y), some (.int z)], [.int 0], h) [] rfl trivial ?_
        exact mm_rz rfl (mm_at ok_Sc_isStretch (i := 15) rfl).1 ⟨Nat.le_refl _, Nat.le_refl _⟩ (Or.inl rfl) ⟨congrArg some (congrArg Value.int (by simp only [f_Sc_isStretch, if_neg h1, if_neg h2, if_pos h3])), rfl⟩
      · refine mm_I ok_Sc_isStretch 7 4 17 [some (.int x), some (.int y), some (.int z)] [.int (z - y), .int x] h [] rfl trivial rfl rfl (fun h4 => ?_) (fun h4 => ?_)
        · refine mm_B ok_Sc_isStretch 14 1 (25, [some (.int x), some (.int y), some (.int z)], [.int 0], h) [] rfl trivial ?_
          exact mm_rz rfl (mm_at ok_Sc_isStretch (i := 15) rfl).1 ⟨Nat.le_refl _, Nat.le_refl _⟩ (Or.inl rfl) ⟨congrArg some (congrArg Value.int (by simp only [f_Sc_isStretch, if_neg h1, if_neg h2, if_neg h3, if_pos h4])), rfl⟩
        · refine mm_B ok_Sc_isStretch 12 2 (25, [some (.int x), some (.int y), some (.int z)], [.int 1], h) [] rfl trivial ?_
          exact mm_rz rfl (mm_at ok_Sc_isStretch (i := 15) rfl).1 ⟨Nat.le_refl _, Nat.le_refl _⟩ (Or.inr rfl) ⟨congrArg some (congrArg Value.int (by simp only [f_Sc_isStretch, if_neg h1, if_neg h2, if_neg h3, if_neg h4])), rfl⟩

def f_Sc_trimmed (x y : Int32) : Int32 := (if x = 0 then y.toInt8.toInt32 else (if x = 1 then y.toInt16.toInt32 else y))
theorem ct_Sc_trimmed (h : mm_Hp) (x y : Int32) : mm_Ct 1 M_Sc_trimmed [.int x, .int y] h 0 0 (fun v h' => v = some (.int (f_Sc_trimmed x y)) ∧ h' = h) := by
  refine mm_start pl_Sc (Nat.le_of_ble_eq_true rfl) ?_
  refine mm_I ok_Sc_trimmed 0 1 1 [some (.int x), some (.int y)] [.int x] h [] rfl trivial rfl rfl (fun h1 => ?_) (fun h1 => ?_)
  · refine mm_I ok_Sc_trimmed 5 2 11 [some (.int x), some (.int y)] [.int 1, .int x] h [] rfl trivial rfl rfl (fun h2 => ?_) (fun h2 => ?_)
    · refine mm_B ok_Sc_trimmed 11 1 (20, [some (.int x), some (.int y)], [.int y], h) [] rfl trivial ?_
      exact mm_ri rfl (mm_at ok_Sc_trimmed (i := 12) rfl).1 ⟨Nat.le_refl _, Nat.le_refl _⟩ ⟨congrArg some (congrArg Value.int (by simp only [f_Sc_trimmed, if_neg h1, if_neg h2])), rfl⟩
    · refine mm_B ok_Sc_trimmed 8 3 (20, [some (.int x), some (.int y)], [.int y.toInt16.toInt32], h) [] rfl trivial ?_
      exact mm_ri rfl (mm_at ok_Sc_trimmed (i := 12) rfl).1 ⟨Nat.le_refl _, Nat.le_refl _⟩ ⟨congrArg some (congrArg Value.int (by simp only [f_Sc_trimmed, if_neg h1, if_pos h2])), rfl⟩
  · refine mm_B ok_Sc_trimmed 2 3 (20, [some (.int x), some (.int y)], [.int y.toInt8.toInt32], h) [] rfl trivial ?_
    exact mm_ri rfl (mm_at ok_Sc_trimmed (i := 12) rfl).1 ⟨Nat.le_refl _, Nat.le_refl _⟩ ⟨congrArg some (congrArg Value.int (by simp only [f_Sc_trimmed, if_pos h1])), rfl⟩

def f_Sp_timesHeard (x y : Int32) : Int32 := ((x >>> ((3 * y) &&& 31)) &&& 7)
theorem ct_Sp_timesHeard (h : mm_Hp) (x y : Int32) : mm_Ct 1 M_Sp_timesHeard [.int x, .int y] h 0 0 (fun v h' => v = some (.int (f_Sp_timesHeard x y)) ∧ h' = h) := by
  refine mm_start pl_Sp (Nat.le_of_ble_eq_true rfl) ?_
  refine mm_B ok_Sp_timesHeard 0 7 (8, [some (.int x), some (.int y)], [.int ((x >>> ((3 * y) &&& 31)) &&& 7)], h) [] rfl trivial ?_
  exact mm_ri rfl (mm_at ok_Sp_timesHeard (i := 7) rfl).1 ⟨Nat.le_refl _, Nat.le_refl _⟩ ⟨congrArg some (congrArg Value.int (rfl)), rfl⟩

def f_Sp_lastUnderstood (x y : Int32) : Int32 := (((x >>> ((12 + (3 * y)) &&& 31)) &&& 7) - 1)
theorem ct_Sp_lastUnderstood (h : mm_Hp) (x y : Int32) : mm_Ct 1 M_Sp_lastUnderstood [.int x, .int y] h 0 0 (fun v h' => v = some (.int (f_Sp_lastUnderstood x y)) ∧ h' = h) := by
  refine mm_start pl_Sp (Nat.le_of_ble_eq_true rfl) ?_
  refine mm_B ok_Sp_lastUnderstood 0 11 (13, [some (.int x), some (.int y)], [.int (((x >>> ((12 + (3 * y)) &&& 31)) &&& 7) - 1)], h) [] rfl trivial ?_
  exact mm_ri rfl (mm_at ok_Sp_lastUnderstood (i := 11) rfl).1 ⟨Nat.le_refl _, Nat.le_refl _⟩ ⟨congrArg some (congrArg Value.int (rfl)), rfl⟩

def f_Re_isDigit (x : Int32) : Int32 := (if x < 48 then 0 else (if 57 < x then 0 else 1))
theorem zo_Re_isDigit (x : Int32) : f_Re_isDigit x = 0 ∨ f_Re_isDigit x = 1 := by
  unfold f_Re_isDigit
  repeat' split
  all_goals first | exact Or.inl rfl | exact Or.inr rfl
theorem ct_Re_isDigit (h : mm_Hp) (x : Int32) : mm_Ct 1 M_Re_isDigit [.int x] h 0 0 (fun v h' => v = some (.int (f_Re_isDigit x)) ∧ h' = h) := by
  refine mm_start pl_Re (Nat.le_of_ble_eq_true rfl) ?_
  refine mm_I ok_Re_isDigit 0 2 3 [some (.int x)] [.int 48, .int x] h [] rfl trivial rfl rfl (fun h1 => ?_) (fun h1 => ?_)
  · refine mm_B ok_Re_isDigit 8 1 (17, [some (.int x)], [.int 0], h) [] rfl trivial ?_
    exact mm_rz rfl (mm_at ok_Re_isDigit (i := 9) rfl).1 ⟨Nat.le_refl _, Nat.le_refl _⟩ (Or.inl rfl) ⟨congrArg some (congrArg Value.int (by simp only [f_Re_isDigit, if_pos h1])), rfl⟩
  · refine mm_I ok_Re_isDigit 3 2 9 [some (.int x)] [.int 57, .int x] h [] rfl trivial rfl rfl (fun h2 => ?_) (fun h2 => ?_)
    · refine mm_B ok_Re_isDigit 8 1 (17, [some (.int x)], [.int 0], h) [] rfl trivial ?_
      exact mm_rz rfl (mm_at ok_Re_isDigit (i := 9) rfl).1 ⟨Nat.le_refl _, Nat.le_refl _⟩ (Or.inl rfl) ⟨congrArg some (congrArg Value.int (by simp only [f_Re_isDigit, if_neg h1, if_pos h2])), rfl⟩
    · refine mm_B ok_Re_isDigit 6 2 (17, [some (.int x)], [.int 1], h) [] rfl trivial ?_
      exact mm_rz rfl (mm_at ok_Re_isDigit (i := 9) rfl).1 ⟨Nat.le_refl _, Nat.le_refl _⟩ (Or.inr rfl) ⟨congrArg some (congrArg Value.int (by simp only [f_Re_isDigit, if_neg h1, if_neg h2])), rfl⟩

def f_Re_isLetter (x : Int32) : Int32 := (if x < 97 then 0 else (if 122 < x then 0 else 1))
theorem zo_Re_isLetter (x : Int32) : f_Re_isLetter x = 0 ∨ f_Re_isLetter x = 1 := by
  unfold f_Re_isLetter
  repeat' split
  all_goals first | exact Or.inl rfl | exact Or.inr rfl
theorem ct_Re_isLetter (h : mm_Hp) (x : Int32) : mm_Ct 1 M_Re_isLetter [.int x] h 0 0 (fun v h' => v = some (.int (f_Re_isLetter x)) ∧ h' = h) := by
  refine mm_start pl_Re (Nat.le_of_ble_eq_true rfl) ?_
  refine mm_I ok_Re_isLetter 0 2 3 [some (.int x)] [.int 97, .int x] h [] rfl trivial rfl rfl (fun h1 => ?_) (fun h1 => ?_)
  · refine mm_B ok_Re_isLetter 8 1 (17, [some (.int x)], [.int 0], h) [] rfl trivial ?_
    exact mm_rz rfl (mm_at ok_Re_isLetter (i := 9) rfl).1 ⟨Nat.le_refl _, Nat.le_refl _⟩ (Or.inl rfl) ⟨congrArg some (congrArg Value.int (by simp only [f_Re_isLetter, if_pos h1])), rfl⟩
  · refine mm_I ok_Re_isLetter 3 2 9 [some (.int x)] [.int 122, .int x] h [] rfl trivial rfl rfl (fun h2 => ?_) (fun h2 => ?_)
    · refine mm_B ok_Re_isLetter 8 1 (17, [some (.int x)], [.int 0], h) [] rfl trivial ?_
      exact mm_rz rfl (mm_at ok_Re_isLetter (i := 9) rfl).1 ⟨Nat.le_refl _, Nat.le_refl _⟩ (Or.inl rfl) ⟨congrArg some (congrArg Value.int (by simp only [f_Re_isLetter, if_neg h1, if_pos h2])), rfl⟩
    · refine mm_B ok_Re_isLetter 6 2 (17, [some (.int x)], [.int 1], h) [] rfl trivial ?_
      exact mm_rz rfl (mm_at ok_Re_isLetter (i := 9) rfl).1 ⟨Nat.le_refl _, Nat.le_refl _⟩ (Or.inr rfl) ⟨congrArg some (congrArg Value.int (by simp only [f_Re_isLetter, if_neg h1, if_neg h2])), rfl⟩

def f_In_bitCount (x : Int32) : Int32 := ((((((((x - (((x.toUInt32 >>> ((1 : Int32).toUInt32 &&& Int32.toUInt32 31)).toInt32) &&& 1431655765)) &&& 858993459) + ((((x - (((x.toUInt32 >>> ((1 : Int32).toUInt32 &&& Int32.toUInt32 31)).toInt32) &&& 1431655765)).toUInt32 >>> ((2 : Int32).toUInt32 &&& Int32.toUInt32 31)).toInt32) &&& 858993459)) + (((((x - (((x.toUInt32 >>> ((1 : Int32).toUInt32 &&& Int32.toUInt32 31)).toInt32) &&& 1431655765)) &&& 858993459) + ((((x - (((x.toUInt32 >>> ((1 : Int32).toUInt32 &&& Int32.toUInt32 31)).toInt32) &&& 1431655765)).toUInt32 >>> ((2 : Int32).toUInt32 &&& Int32.toUInt32 31)).toInt32) &&& 858993459)).toUInt32 >>> ((4 : Int32).toUInt32 &&& Int32.toUInt32 31)).toInt32)) &&& 252645135) + (((((((x - (((x.toUInt32 >>> ((1 : Int32).toUInt32 &&& Int32.toUInt32 31)).toInt32) &&& 1431655765)) &&& 858993459) + ((((x - (((x.toUInt32 >>> ((1 : Int32).toUInt32 &&& Int32.toUInt32 31)).toInt32) &&& 1431655765)).toUInt32 >>> ((2 : Int32).toUInt32 &&& Int32.toUInt32 31)).toInt32) &&& 858993459)) + (((((x - (((x.toUInt32 >>> ((1 : Int32).toUInt32 &&& Int32.toUInt32 31)).toInt32) &&& 1431655765)) &&& 858993459) + ((((x - (((x.toUInt32 >>> ((1 : Int32).toUInt32 &&& Int32.toUInt32 31)).toInt32) &&& 1431655765)).toUInt32 >>> ((2 : Int32).toUInt32 &&& Int32.toUInt32 31)).toInt32) &&& 858993459)).toUInt32 >>> ((4 : Int32).toUInt32 &&& Int32.toUInt32 31)).toInt32)) &&& 252645135).toUInt32 >>> ((8 : Int32).toUInt32 &&& Int32.toUInt32 31)).toInt32)) + ((((((((x - (((x.toUInt32 >>> ((1 : Int32).toUInt32 &&& Int32.toUInt32 31)).toInt32) &&& 1431655765)) &&& 858993459) + ((((x - (((x.toUInt32 >>> ((1 : Int32).toUInt32 &&& Int32.toUInt32 31)).toInt32) &&& 1431655765)).toUInt32 >>> ((2 : Int32).toUInt32 &&& Int32.toUInt32 31)).toInt32) &&& 858993459)) + (((((x - (((x.toUInt32 >>> ((1 : Int32).toUInt32 &&& Int32.toUInt32 31)).toInt32) &&& 1431655765)) &&& 858993459) + ((((x - (((x.toUInt32 >>> ((1 : Int32).toUInt32 &&& Int32.toUInt32 31)).toInt32) &&& 1431655765)).toUInt32 >>> ((2 : Int32).toUInt32 &&& Int32.toUInt32 31)).toInt32) &&& 858993459)).toUInt32 >>> ((4 : Int32).toUInt32 &&& Int32.toUInt32 31)).toInt32)) &&& 252645135) + (((((((x - (((x.toUInt32 >>> ((1 : Int32).toUInt32 &&& Int32.toUInt32 31)).toInt32) &&& 1431655765)) &&& 858993459) + ((((x - (((x.toUInt32 >>> ((1 : Int32).toUInt32 &&& Int32.toUInt32 31)).toInt32) &&& 1431655765)).toUInt32 >>> ((2 : Int32).toUInt32 &&& Int32.toUInt32 31)).toInt32) &&& 858993459)) + (((((x - (((x.toUInt32 >>> ((1 : Int32).toUInt32 &&& Int32.toUInt32 31)).toInt32) &&& 1431655765)) &&& 858993459) + ((((x - (((x.toUInt32 >>> ((1 : Int32).toUInt32 &&& Int32.toUInt32 31)).toInt32) &&& 1431655765)).toUInt32 >>> ((2 : Int32).toUInt32 &&& Int32.toUInt32 31)).toInt32) &&& 858993459)).toUInt32 >>> ((4 : Int32).toUInt32 &&& Int32.toUInt32 31)).toInt32)) &&& 252645135).toUInt32 >>> ((8 : Int32).toUInt32 &&& Int32.toUInt32 31)).toInt32)).toUInt32 >>> ((16 : Int32).toUInt32 &&& Int32.toUInt32 31)).toInt32)) &&& 63)
theorem ct_In_bitCount (h : mm_Hp) (x : Int32) : mm_Ct 1 M_In_bitCount [.int x] h 0 0 (fun v h' => v = some (.int (f_In_bitCount x)) ∧ h' = h) := by
  refine mm_start pl_In (Nat.le_of_ble_eq_true rfl) ?_
  refine mm_B ok_In_bitCount 0 41 (52, [some (.int (((((((x - (((x.toUInt32 >>> ((1 : Int32).toUInt32 &&& Int32.toUInt32 31)).toInt32) &&& 1431655765)) &&& 858993459) + ((((x - (((x.toUInt32 >>> ((1 : Int32).toUInt32 &&& Int32.toUInt32 31)).toInt32) &&& 1431655765)).toUInt32 >>> ((2 : Int32).toUInt32 &&& Int32.toUInt32 31)).toInt32) &&& 858993459)) + (((((x - (((x.toUInt32 >>> ((1 : Int32).toUInt32 &&& Int32.toUInt32 31)).toInt32) &&& 1431655765)) &&& 858993459) + ((((x - (((x.toUInt32 >>> ((1 : Int32).toUInt32 &&& Int32.toUInt32 31)).toInt32) &&& 1431655765)).toUInt32 >>> ((2 : Int32).toUInt32 &&& Int32.toUInt32 31)).toInt32) &&& 858993459)).toUInt32 >>> ((4 : Int32).toUInt32 &&& Int32.toUInt32 31)).toInt32)) &&& 252645135) + (((((((x - (((x.toUInt32 >>> ((1 : Int32).toUInt32 &&& Int32.toUInt32 31)).toInt32) &&& 1431655765)) &&& 858993459) + ((((x - (((x.toUInt32 >>> ((1 : Int32).toUInt32 &&& Int32.toUInt32 31)).toInt32) &&& 1431655765)).toUInt32 >>> ((2 : Int32).toUInt32 &&& Int32.toUInt32 31)).toInt32) &&& 858993459)) + (((((x - (((x.toUInt32 >>> ((1 : Int32).toUInt32 &&& Int32.toUInt32 31)).toInt32) &&& 1431655765)) &&& 858993459) + ((((x - (((x.toUInt32 >>> ((1 : Int32).toUInt32 &&& Int32.toUInt32 31)).toInt32) &&& 1431655765)).toUInt32 >>> ((2 : Int32).toUInt32 &&& Int32.toUInt32 31)).toInt32) &&& 858993459)).toUInt32 >>> ((4 : Int32).toUInt32 &&& Int32.toUInt32 31)).toInt32)) &&& 252645135).toUInt32 >>> ((8 : Int32).toUInt32 &&& Int32.toUInt32 31)).toInt32)) + ((((((((x - (((x.toUInt32 >>> ((1 : Int32).toUInt32 &&& Int32.toUInt32 31)).toInt32) &&& 1431655765)) &&& 858993459) + ((((x - (((x.toUInt32 >>> ((1 : Int32).toUInt32 &&& Int32.toUInt32 31)).toInt32) &&& 1431655765)).toUInt32 >>> ((2 : Int32).toUInt32 &&& Int32.toUInt32 31)).toInt32) &&& 858993459)) + (((((x - (((x.toUInt32 >>> ((1 : Int32).toUInt32 &&& Int32.toUInt32 31)).toInt32) &&& 1431655765)) &&& 858993459) + ((((x - (((x.toUInt32 >>> ((1 : Int32).toUInt32 &&& Int32.toUInt32 31)).toInt32) &&& 1431655765)).toUInt32 >>> ((2 : Int32).toUInt32 &&& Int32.toUInt32 31)).toInt32) &&& 858993459)).toUInt32 >>> ((4 : Int32).toUInt32 &&& Int32.toUInt32 31)).toInt32)) &&& 252645135) + (((((((x - (((x.toUInt32 >>> ((1 : Int32).toUInt32 &&& Int32.toUInt32 31)).toInt32) &&& 1431655765)) &&& 858993459) + ((((x - (((x.toUInt32 >>> ((1 : Int32).toUInt32 &&& Int32.toUInt32 31)).toInt32) &&& 1431655765)).toUInt32 >>> ((2 : Int32).toUInt32 &&& Int32.toUInt32 31)).toInt32) &&& 858993459)) + (((((x - (((x.toUInt32 >>> ((1 : Int32).toUInt32 &&& Int32.toUInt32 31)).toInt32) &&& 1431655765)) &&& 858993459) + ((((x - (((x.toUInt32 >>> ((1 : Int32).toUInt32 &&& Int32.toUInt32 31)).toInt32) &&& 1431655765)).toUInt32 >>> ((2 : Int32).toUInt32 &&& Int32.toUInt32 31)).toInt32) &&& 858993459)).toUInt32 >>> ((4 : Int32).toUInt32 &&& Int32.toUInt32 31)).toInt32)) &&& 252645135).toUInt32 >>> ((8 : Int32).toUInt32 &&& Int32.toUInt32 31)).toInt32)).toUInt32 >>> ((16 : Int32).toUInt32 &&& Int32.toUInt32 31)).toInt32)))], [.int ((((((((x - (((x.toUInt32 >>> ((1 : Int32).toUInt32 &&& Int32.toUInt32 31)).toInt32) &&& 1431655765)) &&& 858993459) + ((((x - (((x.toUInt32 >>> ((1 : Int32).toUInt32 &&& Int32.toUInt32 31)).toInt32) &&& 1431655765)).toUInt32 >>> ((2 : Int32).toUInt32 &&& Int32.toUInt32 31)).toInt32) &&& 858993459)) + (((((x - (((x.toUInt32 >>> ((1 : Int32).toUInt32 &&& Int32.toUInt32 31)).toInt32) &&& 1431655765)) &&& 858993459) + ((((x - (((x.toUInt32 >>> ((1 : Int32).toUInt32 &&& Int32.toUInt32 31)).toInt32) &&& 1431655765)).toUInt32 >>> ((2 : Int32).toUInt32 &&& Int32.toUInt32 31)).toInt32) &&& 858993459)).toUInt32 >>> ((4 : Int32).toUInt32 &&& Int32.toUInt32 31)).toInt32)) &&& 252645135) + (((((((x - (((x.toUInt32 >>> ((1 : Int32).toUInt32 &&& Int32.toUInt32 31)).toInt32) &&& 1431655765)) &&& 858993459) + ((((x - (((x.toUInt32 >>> ((1 : Int32).toUInt32 &&& Int32.toUInt32 31)).toInt32) &&& 1431655765)).toUInt32 >>> ((2 : Int32).toUInt32 &&& Int32.toUInt32 31)).toInt32) &&& 858993459)) + (((((x - (((x.toUInt32 >>> ((1 : Int32).toUInt32 &&& Int32.toUInt32 31)).toInt32) &&& 1431655765)) &&& 858993459) + ((((x - (((x.toUInt32 >>> ((1 : Int32).toUInt32 &&& Int32.toUInt32 31)).toInt32) &&& 1431655765)).toUInt32 >>> ((2 : Int32).toUInt32 &&& Int32.toUInt32 31)).toInt32) &&& 858993459)).toUInt32 >>> ((4 : Int32).toUInt32 &&& Int32.toUInt32 31)).toInt32)) &&& 252645135).toUInt32 >>> ((8 : Int32).toUInt32 &&& Int32.toUInt32 31)).toInt32)) + ((((((((x - (((x.toUInt32 >>> ((1 : Int32).toUInt32 &&& Int32.toUInt32 31)).toInt32) &&& 1431655765)) &&& 858993459) + ((((x - (((x.toUInt32 >>> ((1 : Int32).toUInt32 &&& Int32.toUInt32 31)).toInt32) &&& 1431655765)).toUInt32 >>> ((2 : Int32).toUInt32 &&& Int32.toUInt32 31)).toInt32) &&& 858993459)) + (((((x - (((x.toUInt32 >>> ((1 : Int32).toUInt32 &&& Int32.toUInt32 31)).toInt32) &&& 1431655765)) &&& 858993459) + ((((x - (((x.toUInt32 >>> ((1 : Int32).toUInt32 &&& Int32.toUInt32 31)).toInt32) &&& 1431655765)).toUInt32 >>> ((2 : Int32).toUInt32 &&& Int32.toUInt32 31)).toInt32) &&& 858993459)).toUInt32 >>> ((4 : Int32).toUInt32 &&& Int32.toUInt32 31)).toInt32)) &&& 252645135) + (((((((x - (((x.toUInt32 >>> ((1 : Int32).toUInt32 &&& Int32.toUInt32 31)).toInt32) &&& 1431655765)) &&& 858993459) + ((((x - (((x.toUInt32 >>> ((1 : Int32).toUInt32 &&& Int32.toUInt32 31)).toInt32) &&& 1431655765)).toUInt32 >>> ((2 : Int32).toUInt32 &&& Int32.toUInt32 31)).toInt32) &&& 858993459)) + (((((x - (((x.toUInt32 >>> ((1 : Int32).toUInt32 &&& Int32.toUInt32 31)).toInt32) &&& 1431655765)) &&& 858993459) + ((((x - (((x.toUInt32 >>> ((1 : Int32).toUInt32 &&& Int32.toUInt32 31)).toInt32) &&& 1431655765)).toUInt32 >>> ((2 : Int32).toUInt32 &&& Int32.toUInt32 31)).toInt32) &&& 858993459)).toUInt32 >>> ((4 : Int32).toUInt32 &&& Int32.toUInt32 31)).toInt32)) &&& 252645135).toUInt32 >>> ((8 : Int32).toUInt32 &&& Int32.toUInt32 31)).toInt32)).toUInt32 >>> ((16 : Int32).toUInt32 &&& Int32.toUInt32 31)).toInt32)) &&& 63)], h) [] rfl trivial ?_
  exact mm_ri rfl (mm_at ok_In_bitCount (i := 41) rfl).1 ⟨Nat.le_refl _, Nat.le_refl _⟩ ⟨congrArg some (congrArg Value.int (rfl)), rfl⟩

def f_Mo_in (x y z : Int64) : Int32 := (if (lg_cmp x y) < 0 then 0 else (if 0 < (lg_cmp x z) then 0 else 1))
theorem zo_Mo_in (x y z : Int64) : f_Mo_in x y z = 0 ∨ f_Mo_in x y z = 1 := by
  unfold f_Mo_in
  repeat' split
  all_goals first | exact Or.inl rfl | exact Or.inr rfl
theorem ct_Mo_in (h : mm_Hp) (x y z : Int64) : mm_Ct 1 M_Mo_in [.long x, .long y, .long z] h 0 0 (fun v h' => v = some (.int (f_Mo_in x y z)) ∧ h' = h) := by
  refine mm_start pl_Mo (Nat.le_of_ble_eq_true rfl) ?_
  refine mm_I ok_Mo_in 0 3 3 [some (.long x), none, some (.long y), none, some (.long z), none] [.int (lg_cmp x y)] h [] rfl trivial rfl rfl (fun h1 => ?_) (fun h1 => ?_)
  · refine mm_B ok_Mo_in 10 1 (18, [some (.long x), none, some (.long y), none, some (.long z), none], [.int 0], h) [] rfl trivial ?_
    exact mm_rz rfl (mm_at ok_Mo_in (i := 11) rfl).1 ⟨Nat.le_refl _, Nat.le_refl _⟩ (Or.inl rfl) ⟨congrArg some (congrArg Value.int (by simp only [f_Mo_in, if_pos h1])), rfl⟩
  · refine mm_I ok_Mo_in 4 3 10 [some (.long x), none, some (.long y), none, some (.long z), none] [.int (lg_cmp x z)] h [] rfl trivial rfl rfl (fun h2 => ?_) (fun h2 => ?_)
    · refine mm_B ok_Mo_in 10 1 (18, [some (.long x), none, some (.long y), none, some (.long z), none], [.int 0], h) [] rfl trivial ?_
      exact mm_rz rfl (mm_at ok_Mo_in (i := 11) rfl).1 ⟨Nat.le_refl _, Nat.le_refl _⟩ (Or.inl rfl) ⟨congrArg some (congrArg Value.int (by simp only [f_Mo_in, if_neg h1, if_pos h2])), rfl⟩
    · refine mm_B ok_Mo_in 8 2 (18, [some (.long x), none, some (.long y), none, some (.long z), none], [.int 1], h) [] rfl trivial ?_
      exact mm_rz rfl (mm_at ok_Mo_in (i := 11) rfl).1 ⟨Nat.le_refl _, Nat.le_refl _⟩ (Or.inr rfl) ⟨congrArg some (congrArg Value.int (by simp only [f_Mo_in, if_neg h1, if_neg h2])), rfl⟩

def f_Mo_within (x y z : Int32) : Int32 := (if y ≤ x then (if x ≤ z then x else z) else y)
theorem ct_Mo_within (h : mm_Hp) (x y z : Int32) : mm_Ct 1 M_Mo_within [.int x, .int y, .int z] h 0 0 (fun v h' => v = some (.int (f_Mo_within x y z)) ∧ h' = h) := by
  refine mm_start pl_Mo (Nat.le_of_ble_eq_true rfl) ?_
  refine mm_I ok_Mo_within 0 2 2 [some (.int x), some (.int y), some (.int z)] [.int y, .int x] h [] rfl trivial rfl rfl (fun h1 => ?_) (fun h1 => ?_)
  · refine mm_I ok_Mo_within 5 2 11 [some (.int x), some (.int y), some (.int z)] [.int z, .int x] h [] rfl trivial rfl rfl (fun h2 => ?_) (fun h2 => ?_)
    · refine mm_B ok_Mo_within 10 1 (19, [some (.int x), some (.int y), some (.int z)], [.int x], h) [] rfl trivial ?_
      exact mm_ri rfl (mm_at ok_Mo_within (i := 11) rfl).1 ⟨Nat.le_refl _, Nat.le_refl _⟩ ⟨congrArg some (congrArg Value.int (by simp only [f_Mo_within, if_pos h1, if_pos h2])), rfl⟩
    · refine mm_B ok_Mo_within 8 2 (19, [some (.int x), some (.int y), some (.int z)], [.int z], h) [] rfl trivial ?_
      exact mm_ri rfl (mm_at ok_Mo_within (i := 11) rfl).1 ⟨Nat.le_refl _, Nat.le_refl _⟩ ⟨congrArg some (congrArg Value.int (by simp only [f_Mo_within, if_pos h1, if_neg h2])), rfl⟩
  · refine mm_B ok_Mo_within 3 2 (19, [some (.int x), some (.int y), some (.int z)], [.int y], h) [] rfl trivial ?_
    exact mm_ri rfl (mm_at ok_Mo_within (i := 11) rfl).1 ⟨Nat.le_refl _, Nat.le_refl _⟩ ⟨congrArg some (congrArg Value.int (by simp only [f_Mo_within, if_neg h1])), rfl⟩

def f_Mo_over (x : Int32) : Int32 := (if x = 0 then (-1) else (if x = 1 then 0 else (if x = 2 then 0 else (if x = 4 then 2 else 1))))
theorem ct_Mo_over (h : mm_Hp) (x : Int32) : mm_Ct 1 M_Mo_over [.int x] h 0 0 (fun v h' => v = some (.int (f_Mo_over x)) ∧ h' = h) := by
  refine mm_start pl_Mo (Nat.le_of_ble_eq_true rfl) ?_
  refine mm_I ok_Mo_over 0 1 1 [some (.int x)] [.int x] h [] rfl trivial rfl rfl (fun h1 => ?_) (fun h1 => ?_)
  · refine mm_I ok_Mo_over 4 2 10 [some (.int x)] [.int 1, .int x] h [] rfl trivial rfl rfl (fun h2 => ?_) (fun h2 => ?_)
    · refine mm_B ok_Mo_over 10 2 (32, [some (.int x)], [.int 0], h) [] rfl trivial ?_
      exact mm_ri rfl (mm_at ok_Mo_over (i := 18) rfl).1 ⟨Nat.le_refl _, Nat.le_refl _⟩ ⟨congrArg some (congrArg Value.int (by simp only [f_Mo_over, if_neg h1, if_pos h2])), rfl⟩
    · refine mm_I ok_Mo_over 7 2 15 [some (.int x)] [.int 2, .int x] h [] rfl trivial rfl rfl (fun h3 => ?_) (fun h3 => ?_)
      · refine mm_I ok_Mo_over 12 2 24 [some (.int x)] [.int 4, .int x] h [] rfl trivial rfl rfl (fun h4 => ?_) (fun h4 => ?_)
        · refine mm_B ok_Mo_over 17 1 (32, [some (.int x)], [.int 1], h) [] rfl trivial ?_
          exact mm_ri rfl (mm_at ok_Mo_over (i := 18) rfl).1 ⟨Nat.le_refl _, Nat.le_refl _⟩ ⟨congrArg some (congrArg Value.int (by simp only [f_Mo_over, if_neg h1, if_neg h2, if_neg h3, if_neg h4])), rfl⟩
        · refine mm_B ok_Mo_over 15 2 (32, [some (.int x)], [.int 2], h) [] rfl trivial ?_
          exact mm_ri rfl (mm_at ok_Mo_over (i := 18) rfl).1 ⟨Nat.le_refl _, Nat.le_refl _⟩ ⟨congrArg some (congrArg Value.int (by simp only [f_Mo_over, if_neg h1, if_neg h2, if_neg h3, if_pos h4])), rfl⟩
      · refine mm_B ok_Mo_over 10 2 (32, [some (.int x)], [.int 0], h) [] rfl trivial ?_
        exact mm_ri rfl (mm_at ok_Mo_over (i := 18) rfl).1 ⟨Nat.le_refl _, Nat.le_refl _⟩ ⟨congrArg some (congrArg Value.int (by simp only [f_Mo_over, if_neg h1, if_neg h2, if_pos h3])), rfl⟩
  · refine mm_B ok_Mo_over 2 2 (32, [some (.int x)], [.int (-1)], h) [] rfl trivial ?_
    exact mm_ri rfl (mm_at ok_Mo_over (i := 18) rfl).1 ⟨Nat.le_refl _, Nat.le_refl _⟩ ⟨congrArg some (congrArg Value.int (by simp only [f_Mo_over, if_pos h1])), rfl⟩

def f_Mo_isSheet (x : Int32) : Int32 := (f_Mo_in ((x).toInt64) 0 3)
theorem zo_Mo_isSheet (x : Int32) : f_Mo_isSheet x = 0 ∨ f_Mo_isSheet x = 1 := by
  unfold f_Mo_isSheet
  repeat' split
  all_goals first | exact (zo_Mo_in ..) | exact Or.inl rfl | exact Or.inr rfl
theorem ct_Mo_isSheet (h : mm_Hp) (x : Int32) : mm_Ct 2 M_Mo_isSheet [.int x] h 0 0 (fun v h' => v = some (.int (f_Mo_isSheet x)) ∧ h' = h) := by
  refine mm_start pl_Mo (Nat.le_of_ble_eq_true rfl) ?_
  refine mm_B ok_Mo_isSheet 0 4 (6, [some (.int x)], [.long 3, .long 0, .long (x).toInt64], h) [] rfl trivial ?_
  refine mm_cS (as := [.long (x).toInt64, .long 0, .long 3]) (st := []) cw_Mo_in lk_Mo_100 sx_Mo_in (mm_at ok_Mo_isSheet (i := 4) rfl).1 (ct_Mo_in h ((x).toInt64) 0 3) (by decide) ⟨by omega, by omega⟩ (Nat.le_of_ble_eq_true rfl) (mm_vs_b (b := 0) rfl (Nat.zero_le _)) (fun v h' hqq => ?_)
  obtain ⟨rfl, hqe⟩ := hqq; rw [hqe]
  exact mm_rz rfl (mm_at ok_Mo_isSheet (i := 5) rfl).1 ⟨Nat.le_refl _, Nat.le_refl _⟩ (zo_Mo_in ..) ⟨congrArg some (congrArg Value.int (rfl)), rfl⟩

def f_Sc_isLesson (g : Nat → Nat → Int32) (x : Int32) : Int32 := (if x < 0 then 0 else (if (g 2 0) ≤ x then 0 else 1))
theorem zo_Sc_isLesson (g : Nat → Nat → Int32) (x : Int32) : f_Sc_isLesson g x = 0 ∨ f_Sc_isLesson g x = 1 := by
  unfold f_Sc_isLesson
  repeat' split
  all_goals first | exact Or.inl rfl | exact Or.inr rfl
theorem ct_Sc_isLesson (dy : List mm_Sh) (g : Nat → Nat → Int32) (r : (Nat → Nat → Int64) × Nat × (Nat → Int32)) (x : Int32) : mm_Ct 1 M_Sc_isLesson [.ref 0, .int x] (hp_SH ++ dy, g, r) 0 0 (fun v h' => v = some (.int (f_Sc_isLesson g x)) ∧ h' = (hp_SH ++ dy, g, r)) := by
  refine mm_start pl_Sc (Nat.le_of_ble_eq_true rfl) ?_
  refine mm_I ok_Sc_isLesson 0 1 1 [some (.ref 0), some (.int x)] [.int x] (hp_SH ++ dy, g, r) [] rfl trivial rfl rfl (fun h1 => ?_) (fun h1 => ?_)
  · refine mm_B ok_Sc_isLesson 10 1 (23, [some (.ref 0), some (.int x)], [.int 0], (hp_SH ++ dy, g, r)) [] rfl trivial ?_
    exact mm_rz rfl (mm_at ok_Sc_isLesson (i := 11) rfl).1 ⟨Nat.le_refl _, Nat.le_refl _⟩ (Or.inl rfl) ⟨congrArg some (congrArg Value.int (by simp only [f_Sc_isLesson, if_pos h1])), rfl⟩
  · refine mm_I ok_Sc_isLesson 2 5 15 [some (.ref 0), some (.int x)] [.int (g 2 0), .int x] (hp_SH ++ dy, g, r) [] rfl trivial rfl rfl (fun h2 => ?_) (fun h2 => ?_)
    · refine mm_B ok_Sc_isLesson 10 1 (23, [some (.ref 0), some (.int x)], [.int 0], (hp_SH ++ dy, g, r)) [] rfl trivial ?_
      exact mm_rz rfl (mm_at ok_Sc_isLesson (i := 11) rfl).1 ⟨Nat.le_refl _, Nat.le_refl _⟩ (Or.inl rfl) ⟨congrArg some (congrArg Value.int (by simp only [f_Sc_isLesson, if_neg h1, if_pos h2])), rfl⟩
    · refine mm_B ok_Sc_isLesson 8 2 (23, [some (.ref 0), some (.int x)], [.int 1], (hp_SH ++ dy, g, r)) [] rfl trivial ?_
      exact mm_rz rfl (mm_at ok_Sc_isLesson (i := 11) rfl).1 ⟨Nat.le_refl _, Nat.le_refl _⟩ (Or.inr rfl) ⟨congrArg some (congrArg Value.int (by simp only [f_Sc_isLesson, if_neg h1, if_neg h2])), rfl⟩

def f_Sc_isChild (g : Nat → Nat → Int32) (x : Int32) : Int32 := (if x < 0 then 0 else (if (g 2 1) ≤ x then 0 else 1))
theorem zo_Sc_isChild (g : Nat → Nat → Int32) (x : Int32) : f_Sc_isChild g x = 0 ∨ f_Sc_isChild g x = 1 := by
  unfold f_Sc_isChild
  repeat' split
  all_goals first | exact Or.inl rfl | exact Or.inr rfl
theorem ct_Sc_isChild (dy : List mm_Sh) (g : Nat → Nat → Int32) (r : (Nat → Nat → Int64) × Nat × (Nat → Int32)) (x : Int32) : mm_Ct 1 M_Sc_isChild [.ref 0, .int x] (hp_SH ++ dy, g, r) 0 0 (fun v h' => v = some (.int (f_Sc_isChild g x)) ∧ h' = (hp_SH ++ dy, g, r)) := by
  refine mm_start pl_Sc (Nat.le_of_ble_eq_true rfl) ?_
  refine mm_I ok_Sc_isChild 0 1 1 [some (.ref 0), some (.int x)] [.int x] (hp_SH ++ dy, g, r) [] rfl trivial rfl rfl (fun h1 => ?_) (fun h1 => ?_)
  · refine mm_B ok_Sc_isChild 10 1 (23, [some (.ref 0), some (.int x)], [.int 0], (hp_SH ++ dy, g, r)) [] rfl trivial ?_
    exact mm_rz rfl (mm_at ok_Sc_isChild (i := 11) rfl).1 ⟨Nat.le_refl _, Nat.le_refl _⟩ (Or.inl rfl) ⟨congrArg some (congrArg Value.int (by simp only [f_Sc_isChild, if_pos h1])), rfl⟩
  · refine mm_I ok_Sc_isChild 2 5 15 [some (.ref 0), some (.int x)] [.int (g 2 1), .int x] (hp_SH ++ dy, g, r) [] rfl trivial rfl rfl (fun h2 => ?_) (fun h2 => ?_)
    · refine mm_B ok_Sc_isChild 10 1 (23, [some (.ref 0), some (.int x)], [.int 0], (hp_SH ++ dy, g, r)) [] rfl trivial ?_
      exact mm_rz rfl (mm_at ok_Sc_isChild (i := 11) rfl).1 ⟨Nat.le_refl _, Nat.le_refl _⟩ (Or.inl rfl) ⟨congrArg some (congrArg Value.int (by simp only [f_Sc_isChild, if_neg h1, if_pos h2])), rfl⟩
    · refine mm_B ok_Sc_isChild 8 2 (23, [some (.ref 0), some (.int x)], [.int 1], (hp_SH ++ dy, g, r)) [] rfl trivial ?_
      exact mm_rz rfl (mm_at ok_Sc_isChild (i := 11) rfl).1 ⟨Nat.le_refl _, Nat.le_refl _⟩ (Or.inr rfl) ⟨congrArg some (congrArg Value.int (by simp only [f_Sc_isChild, if_neg h1, if_neg h2])), rfl⟩

def f_Mo_isLesson (g : Nat → Nat → Int32) (x : Int32) : Int32 := (f_Mo_in ((x).toInt64) 0 ((((g 52 10) - 1)).toInt64))
theorem zo_Mo_isLesson (g : Nat → Nat → Int32) (x : Int32) : f_Mo_isLesson g x = 0 ∨ f_Mo_isLesson g x = 1 := by
  unfold f_Mo_isLesson
  repeat' split
  all_goals first | exact (zo_Mo_in ..) | exact Or.inl rfl | exact Or.inr rfl
theorem ct_Mo_isLesson (dy : List mm_Sh) (g : Nat → Nat → Int32) (r : (Nat → Nat → Int64) × Nat × (Nat → Int32)) (x : Int32) : mm_Ct 2 M_Mo_isLesson [.ref 52, .int x] (hp_SH ++ dy, g, r) 0 0 (fun v h' => v = some (.int (f_Mo_isLesson g x)) ∧ h' = (hp_SH ++ dy, g, r)) := by
  refine mm_start pl_Mo (Nat.le_of_ble_eq_true rfl) ?_
  refine mm_B ok_Mo_isLesson 0 8 (10, [some (.ref 52), some (.int x)], [.long (((g 52 10) - 1)).toInt64, .long 0, .long (x).toInt64], (hp_SH ++ dy, g, r)) [] rfl trivial ?_
  refine mm_cS (as := [.long (x).toInt64, .long 0, .long (((g 52 10) - 1)).toInt64]) (st := []) cw_Mo_in lk_Mo_100 sx_Mo_in (mm_at ok_Mo_isLesson (i := 8) rfl).1 (ct_Mo_in (hp_SH ++ dy, g, r) ((x).toInt64) 0 ((((g 52 10) - 1)).toInt64)) (by decide) ⟨by omega, by omega⟩ (Nat.le_of_ble_eq_true rfl) (mm_vs_b (b := 77) rfl (hp_len dy)) (fun v h' hqq => ?_)
  obtain ⟨rfl, hqe⟩ := hqq; rw [hqe]
  exact mm_rz rfl (mm_at ok_Mo_isLesson (i := 9) rfl).1 ⟨Nat.le_refl _, Nat.le_refl _⟩ (zo_Mo_in ..) ⟨congrArg some (congrArg Value.int (rfl)), rfl⟩

def f_Mo_isChild (g : Nat → Nat → Int32) (x : Int32) : Int32 := (f_Mo_in ((x).toInt64) 0 ((((g 52 14) - 1)).toInt64))
theorem zo_Mo_isChild (g : Nat → Nat → Int32) (x : Int32) : f_Mo_isChild g x = 0 ∨ f_Mo_isChild g x = 1 := by
  unfold f_Mo_isChild
  repeat' split
  all_goals first | exact (zo_Mo_in ..) | exact Or.inl rfl | exact Or.inr rfl
theorem ct_Mo_isChild (dy : List mm_Sh) (g : Nat → Nat → Int32) (r : (Nat → Nat → Int64) × Nat × (Nat → Int32)) (x : Int32) : mm_Ct 2 M_Mo_isChild [.ref 52, .int x] (hp_SH ++ dy, g, r) 0 0 (fun v h' => v = some (.int (f_Mo_isChild g x)) ∧ h' = (hp_SH ++ dy, g, r)) := by
  refine mm_start pl_Mo (Nat.le_of_ble_eq_true rfl) ?_
  refine mm_B ok_Mo_isChild 0 8 (10, [some (.ref 52), some (.int x)], [.long (((g 52 14) - 1)).toInt64, .long 0, .long (x).toInt64], (hp_SH ++ dy, g, r)) [] rfl trivial ?_
  refine mm_cS (as := [.long (x).toInt64, .long 0, .long (((g 52 14) - 1)).toInt64]) (st := []) cw_Mo_in lk_Mo_100 sx_Mo_in (mm_at ok_Mo_isChild (i := 8) rfl).1 (ct_Mo_in (hp_SH ++ dy, g, r) ((x).toInt64) 0 ((((g 52 14) - 1)).toInt64)) (by decide) ⟨by omega, by omega⟩ (Nat.le_of_ble_eq_true rfl) (mm_vs_b (b := 77) rfl (hp_len dy)) (fun v h' hqq => ?_)
  obtain ⟨rfl, hqe⟩ := hqq; rw [hqe]
  exact mm_rz rfl (mm_at ok_Mo_isChild (i := 9) rfl).1 ⟨Nat.le_refl _, Nat.le_refl _⟩ (zo_Mo_in ..) ⟨congrArg some (congrArg Value.int (rfl)), rfl⟩
end
section
/-! ===== the kinds ===== -/
theorem lk_Hk_11 : Cond.methodLink "SchoolOnRaft$HardKind" 11 ⟨"SchoolOnRaft$LongKind", "keeps", "(II)Z"⟩ ∈ mm_G := mm_wat 677 (by decide +kernel) rfl
theorem lk_So_7 : Cond.methodLink "SchoolOnRaft$SongKind" 7 ⟨"SchoolOnRaft$LightKind", "times", "(I)I"⟩ ∈ mm_G := mm_wat 449 (by decide +kernel) rfl
theorem si_Li_times : Cond.sameMethod "SchoolOnRaft$LightKind" "SchoolOnRaft$Kind" "times" "(I)I" ∈ mm_G := mm_wat 450 (by decide +kernel) rfl
theorem si_Lo_keeps : Cond.sameMethod "SchoolOnRaft$LongKind" "SchoolOnRaft$Kind" "keeps" "(II)Z" ∈ mm_G := mm_wat 678 (by decide +kernel) rfl
theorem mm_vs_c {n q : Nat} {lv : mm_L} {st : List Value} (hq : q < n) (h : mm_vs n lv st) : mm_vs n (some (.ref q) :: lv) st :=
  ⟨fun k hk => (List.mem_cons.mp hk).elim (fun e => by cases e; exact hq) (h.1 k), h.2⟩
def f_Kd_times (x : Int32) : Int32 := 1
theorem ct_Kd_times (h : mm_Hp) (q : Nat) (x : Int32) : mm_Ct 1 M_Kd_times [.ref q, .int x] h 0 0 (fun v h' => v = some (.int (f_Kd_times x)) ∧ h' = h) := by
  refine mm_start pl_Kd (Nat.le_of_ble_eq_true rfl) ?_
  refine mm_B ok_Kd_times 0 1 (1, [some (.ref q), some (.int x)], [.int 1], h) [] rfl trivial ?_
  exact mm_ri rfl (mm_at ok_Kd_times (i := 1) rfl).1 ⟨Nat.le_refl _, Nat.le_refl _⟩ ⟨congrArg some (congrArg Value.int (rfl)), rfl⟩
def f_Kd_keeps (x y : Int32) : Int32 := 1
theorem zo_Kd_keeps (x y : Int32) : f_Kd_keeps x y = 0 ∨ f_Kd_keeps x y = 1 := by
  unfold f_Kd_keeps
  repeat' split
  all_goals first | exact Or.inl rfl | exact Or.inr rfl
theorem ct_Kd_keeps (h : mm_Hp) (q : Nat) (x y : Int32) : mm_Ct 1 M_Kd_keeps [.ref q, .int x, .int y] h 0 0 (fun v h' => v = some (.int (f_Kd_keeps x y)) ∧ h' = h) := by
  refine mm_start pl_Kd (Nat.le_of_ble_eq_true rfl) ?_
  refine mm_B ok_Kd_keeps 0 1 (1, [some (.ref q), some (.int x), some (.int y)], [.int 1], h) [] rfl trivial ?_
  exact mm_rz rfl (mm_at ok_Kd_keeps (i := 1) rfl).1 ⟨Nat.le_refl _, Nat.le_refl _⟩ (Or.inr rfl) ⟨congrArg some (congrArg Value.int (rfl)), rfl⟩
def f_Kd_value (x : Int32) : Int32 := (10 + x)
theorem ct_Kd_value (h : mm_Hp) (q : Nat) (x : Int32) : mm_Ct 1 M_Kd_value [.ref q, .int x] h 0 0 (fun v h' => v = some (.int (f_Kd_value x)) ∧ h' = h) := by
  refine mm_start pl_Kd (Nat.le_of_ble_eq_true rfl) ?_
  refine mm_B ok_Kd_value 0 3 (4, [some (.ref q), some (.int x)], [.int (10 + x)], h) [] rfl trivial ?_
  exact mm_ri rfl (mm_at ok_Kd_value (i := 3) rfl).1 ⟨Nat.le_refl _, Nat.le_refl _⟩ ⟨congrArg some (congrArg Value.int (rfl)), rfl⟩
def f_Lo_times (x : Int32) : Int32 := ((f_Kd_times x) + (x - x / 3 * 3))
theorem ct_Lo_times (h : mm_Hp) {q ci : Nat} {fs : List Nat} {r : vw_C} (hrc : vwCl[ci]? = some r) (hq : h.1[q]? = some (.inr (ci, fs))) (x : Int32) : mm_Ct 2 M_Lo_times [.ref q, .int x] h 0 0 (fun v h' => v = some (.int (f_Lo_times x)) ∧ h' = h) := by
  have hlt : q < h.1.length := (List.getElem?_eq_some_iff.mp hq).1
  refine mm_start pl_Lo (Nat.le_of_ble_eq_true rfl) ?_
  refine mm_B ok_Lo_times 0 2 (2, [some (.ref q), some (.int x)], [.int x, .ref q], h) [] rfl trivial ?_
  refine mm_cX (as := [.int x]) (st := []) (q := q) cw_Kd_times lk_Lo_7 sm_Kd_times su_Lo_Kd in_Kd_times (by decide) hrc hq (mm_at ok_Lo_times (i := 2) rfl).1 (ct_Kd_times h q x) (by decide) ⟨by omega, by omega⟩ (Nat.le_of_ble_eq_true rfl) (mm_vs_c hlt (mm_vs_b (b := 0) rfl (Nat.zero_le _))) (fun v h' hqq => ?_)
  obtain ⟨rfl, hqe⟩ := hqq; rw [hqe]
  refine mm_B ok_Lo_times 3 4 (9, [some (.ref q), some (.int x)], [.int ((f_Kd_times x) + (x - x / 3 * 3))], h) [¬ (3 : Int32) = 0] rfl (show ¬ (3 : Int32) = 0 from (by first | exact mm_vi rfl | assumption | decide)) ?_
  exact mm_ri rfl (mm_at ok_Lo_times (i := 7) rfl).1 ⟨Nat.le_refl _, Nat.le_refl _⟩ ⟨congrArg some (congrArg Value.int (rfl)), rfl⟩
def f_Lo_value (x : Int32) : Int32 := (2 * (f_Kd_value x))
theorem ct_Lo_value (h : mm_Hp) {q ci : Nat} {fs : List Nat} {r : vw_C} (hrc : vwCl[ci]? = some r) (hq : h.1[q]? = some (.inr (ci, fs))) (x : Int32) : mm_Ct 2 M_Lo_value [.ref q, .int x] h 0 0 (fun v h' => v = some (.int (f_Lo_value x)) ∧ h' = h) := by
  have hlt : q < h.1.length := (List.getElem?_eq_some_iff.mp hq).1
  refine mm_start pl_Lo (Nat.le_of_ble_eq_true rfl) ?_
  refine mm_B ok_Lo_value 0 3 (3, [some (.ref q), some (.int x)], [.int x, .ref q, .int 2], h) [] rfl trivial ?_
  refine mm_cX (as := [.int x]) (st := [.int 2]) (q := q) cw_Kd_value lk_Lo_11 sm_Kd_value su_Lo_Kd in_Kd_value (by decide) hrc hq (mm_at ok_Lo_value (i := 3) rfl).1 (ct_Kd_value h q x) (by decide) ⟨by omega, by omega⟩ (Nat.le_of_ble_eq_true rfl) (mm_vs_c hlt (mm_vs_b (b := 0) rfl (Nat.zero_le _))) (fun v h' hqq => ?_)
  obtain ⟨rfl, hqe⟩ := hqq; rw [hqe]
  refine mm_B ok_Lo_value 4 1 (7, [some (.ref q), some (.int x)], [.int (2 * (f_Kd_value x))], h) [] rfl trivial ?_
  exact mm_ri rfl (mm_at ok_Lo_value (i := 5) rfl).1 ⟨Nat.le_refl _, Nat.le_refl _⟩ ⟨congrArg some (congrArg Value.int (rfl)), rfl⟩
def f_Li_keeps (x y : Int32) : Int32 := (if x < y then 0 else 1)
theorem zo_Li_keeps (x y : Int32) : f_Li_keeps x y = 0 ∨ f_Li_keeps x y = 1 := by
  unfold f_Li_keeps
  repeat' split
  all_goals first | exact Or.inl rfl | exact Or.inr rfl
theorem ct_Li_keeps (h : mm_Hp) (q : Nat) (x y : Int32) : mm_Ct 1 M_Li_keeps [.ref q, .int x, .int y] h 0 0 (fun v h' => v = some (.int (f_Li_keeps x y)) ∧ h' = h) := by
  refine mm_start pl_Li (Nat.le_of_ble_eq_true rfl) ?_
  refine mm_I ok_Li_keeps 0 2 2 [some (.ref q), some (.int x), some (.int y)] [.int x, .int y] h [] rfl trivial rfl rfl (fun h1 => ?_) (fun h1 => ?_)
  · refine mm_B ok_Li_keeps 5 1 (10, [some (.ref q), some (.int x), some (.int y)], [.int 0], h) [] rfl trivial ?_
    exact mm_rz rfl (mm_at ok_Li_keeps (i := 6) rfl).1 ⟨Nat.le_refl _, Nat.le_refl _⟩ (Or.inl rfl) ⟨congrArg some (congrArg Value.int (by simp only [f_Li_keeps, if_pos h1])), rfl⟩
  · refine mm_B ok_Li_keeps 3 2 (10, [some (.ref q), some (.int x), some (.int y)], [.int 1], h) [] rfl trivial ?_
    exact mm_rz rfl (mm_at ok_Li_keeps (i := 6) rfl).1 ⟨Nat.le_refl _, Nat.le_refl _⟩ (Or.inr rfl) ⟨congrArg some (congrArg Value.int (by simp only [f_Li_keeps, if_neg h1])), rfl⟩
def f_Li_value (x : Int32) : Int32 := ((f_Kd_value x) - 5)
theorem ct_Li_value (h : mm_Hp) {q ci : Nat} {fs : List Nat} {r : vw_C} (hrc : vwCl[ci]? = some r) (hq : h.1[q]? = some (.inr (ci, fs))) (x : Int32) : mm_Ct 2 M_Li_value [.ref q, .int x] h 0 0 (fun v h' => v = some (.int (f_Li_value x)) ∧ h' = h) := by
  have hlt : q < h.1.length := (List.getElem?_eq_some_iff.mp hq).1
  refine mm_start pl_Li (Nat.le_of_ble_eq_true rfl) ?_
  refine mm_B ok_Li_value 0 2 (2, [some (.ref q), some (.int x)], [.int x, .ref q], h) [] rfl trivial ?_
  refine mm_cX (as := [.int x]) (st := []) (q := q) cw_Kd_value lk_Li_7 sm_Kd_value su_Li_Kd in_Kd_value (by decide) hrc hq (mm_at ok_Li_value (i := 2) rfl).1 (ct_Kd_value h q x) (by decide) ⟨by omega, by omega⟩ (Nat.le_of_ble_eq_true rfl) (mm_vs_c hlt (mm_vs_b (b := 0) rfl (Nat.zero_le _))) (fun v h' hqq => ?_)
  obtain ⟨rfl, hqe⟩ := hqq; rw [hqe]
  refine mm_B ok_Li_value 3 2 (7, [some (.ref q), some (.int x)], [.int ((f_Kd_value x) - 5)], h) [] rfl trivial ?_
  exact mm_ri rfl (mm_at ok_Li_value (i := 5) rfl).1 ⟨Nat.le_refl _, Nat.le_refl _⟩ ⟨congrArg some (congrArg Value.int (rfl)), rfl⟩
def f_Hk_times (x : Int32) : Int32 := ((f_Lo_times x) + 1)
theorem ct_Hk_times (h : mm_Hp) {q ci : Nat} {fs : List Nat} {r : vw_C} (hrc : vwCl[ci]? = some r) (hq : h.1[q]? = some (.inr (ci, fs))) (x : Int32) : mm_Ct 3 M_Hk_times [.ref q, .int x] h 0 0 (fun v h' => v = some (.int (f_Hk_times x)) ∧ h' = h) := by
  have hlt : q < h.1.length := (List.getElem?_eq_some_iff.mp hq).1
  refine mm_start pl_Hk (Nat.le_of_ble_eq_true rfl) ?_
  refine mm_B ok_Hk_times 0 2 (2, [some (.ref q), some (.int x)], [.int x, .ref q], h) [] rfl trivial ?_
  refine mm_cX (as := [.int x]) (st := []) (q := q) cw_Lo_times lk_Hk_7 sm_Lo_times su_Hk_Lo in_Lo_times (by decide) hrc hq (mm_at ok_Hk_times (i := 2) rfl).1 (ct_Lo_times h hrc hq x) (by decide) ⟨by omega, by omega⟩ (Nat.le_of_ble_eq_true rfl) (mm_vs_c hlt (mm_vs_b (b := 0) rfl (Nat.zero_le _))) (fun v h' hqq => ?_)
  obtain ⟨rfl, hqe⟩ := hqq; rw [hqe]
  refine mm_B ok_Hk_times 3 2 (7, [some (.ref q), some (.int x)], [.int ((f_Lo_times x) + 1)], h) [] rfl trivial ?_
  exact mm_ri rfl (mm_at ok_Hk_times (i := 5) rfl).1 ⟨Nat.le_refl _, Nat.le_refl _⟩ ⟨congrArg some (congrArg Value.int (rfl)), rfl⟩
def f_Hk_keeps (x y : Int32) : Int32 := (if (f_Kd_keeps x y) = 0 then 0 else (if 4 < y then 0 else 1))
theorem zo_Hk_keeps (x y : Int32) : f_Hk_keeps x y = 0 ∨ f_Hk_keeps x y = 1 := by
  unfold f_Hk_keeps
  repeat' split
  all_goals first | exact Or.inl rfl | exact Or.inr rfl
theorem ct_Hk_keeps (h : mm_Hp) {q ci : Nat} {fs : List Nat} {r : vw_C} (hrc : vwCl[ci]? = some r) (hq : h.1[q]? = some (.inr (ci, fs))) (x y : Int32) : mm_Ct 2 M_Hk_keeps [.ref q, .int x, .int y] h 0 0 (fun v h' => v = some (.int (f_Hk_keeps x y)) ∧ h' = h) := by
  have hlt : q < h.1.length := (List.getElem?_eq_some_iff.mp hq).1
  refine mm_start pl_Hk (Nat.le_of_ble_eq_true rfl) ?_
  refine mm_B ok_Hk_keeps 0 3 (3, [some (.ref q), some (.int x), some (.int y)], [.int y, .int x, .ref q], h) [] rfl trivial ?_
  refine mm_cY (sc := "SchoolOnRaft$LongKind") (as := [.int x, .int y]) (st := []) (q := q) cw_Kd_keeps lk_Hk_11 si_Lo_keeps su_Hk_Lo su_Lo_Kd in_Kd_keeps (by decide) hrc hq (mm_at ok_Hk_keeps (i := 3) rfl).1 (ct_Kd_keeps h q x y) (by decide) ⟨by omega, by omega⟩ (Nat.le_of_ble_eq_true rfl) (mm_vs_c hlt (mm_vs_b (b := 0) rfl (Nat.zero_le _))) (fun v h' hqq => ?_)
  obtain ⟨rfl, hqe⟩ := hqq; rw [hqe]
  refine mm_I ok_Hk_keeps 4 0 6 [some (.ref q), some (.int x), some (.int y)] [.int (f_Kd_keeps x y)] h [] rfl trivial rfl rfl (fun h1 => ?_) (fun h1 => ?_)
  · refine mm_B ok_Hk_keeps 10 1 (19, [some (.ref q), some (.int x), some (.int y)], [.int 0], h) [] rfl trivial ?_
    exact mm_rz rfl (mm_at ok_Hk_keeps (i := 11) rfl).1 ⟨Nat.le_refl _, Nat.le_refl _⟩ (Or.inl rfl) ⟨congrArg some (congrArg Value.int (by simp only [f_Hk_keeps, if_pos h1])), rfl⟩
  · refine mm_I ok_Hk_keeps 5 2 11 [some (.ref q), some (.int x), some (.int y)] [.int 4, .int y] h [] rfl trivial rfl rfl (fun h2 => ?_) (fun h2 => ?_)
    · refine mm_B ok_Hk_keeps 10 1 (19, [some (.ref q), some (.int x), some (.int y)], [.int 0], h) [] rfl trivial ?_
      exact mm_rz rfl (mm_at ok_Hk_keeps (i := 11) rfl).1 ⟨Nat.le_refl _, Nat.le_refl _⟩ (Or.inl rfl) ⟨congrArg some (congrArg Value.int (by simp only [f_Hk_keeps, if_neg h1, if_pos h2])), rfl⟩
    · refine mm_B ok_Hk_keeps 8 2 (19, [some (.ref q), some (.int x), some (.int y)], [.int 1], h) [] rfl trivial ?_
      exact mm_rz rfl (mm_at ok_Hk_keeps (i := 11) rfl).1 ⟨Nat.le_refl _, Nat.le_refl _⟩ (Or.inr rfl) ⟨congrArg some (congrArg Value.int (by simp only [f_Hk_keeps, if_neg h1, if_neg h2])), rfl⟩
def f_Hk_value (x : Int32) : Int32 := ((f_Lo_value x) + x)
theorem ct_Hk_value (h : mm_Hp) {q ci : Nat} {fs : List Nat} {r : vw_C} (hrc : vwCl[ci]? = some r) (hq : h.1[q]? = some (.inr (ci, fs))) (x : Int32) : mm_Ct 3 M_Hk_value [.ref q, .int x] h 0 0 (fun v h' => v = some (.int (f_Hk_value x)) ∧ h' = h) := by
  have hlt : q < h.1.length := (List.getElem?_eq_some_iff.mp hq).1
  refine mm_start pl_Hk (Nat.le_of_ble_eq_true rfl) ?_
  refine mm_B ok_Hk_value 0 2 (2, [some (.ref q), some (.int x)], [.int x, .ref q], h) [] rfl trivial ?_
  refine mm_cX (as := [.int x]) (st := []) (q := q) cw_Lo_value lk_Hk_15 sm_Lo_value su_Hk_Lo in_Lo_value (by decide) hrc hq (mm_at ok_Hk_value (i := 2) rfl).1 (ct_Lo_value h hrc hq x) (by decide) ⟨by omega, by omega⟩ (Nat.le_of_ble_eq_true rfl) (mm_vs_c hlt (mm_vs_b (b := 0) rfl (Nat.zero_le _))) (fun v h' hqq => ?_)
  obtain ⟨rfl, hqe⟩ := hqq; rw [hqe]
  refine mm_B ok_Hk_value 3 2 (7, [some (.ref q), some (.int x)], [.int ((f_Lo_value x) + x)], h) [] rfl trivial ?_
  exact mm_ri rfl (mm_at ok_Hk_value (i := 5) rfl).1 ⟨Nat.le_refl _, Nat.le_refl _⟩ ⟨congrArg some (congrArg Value.int (rfl)), rfl⟩
def f_So_times (x : Int32) : Int32 := ((f_Kd_times x) + (x - x / 2 * 2))
theorem ct_So_times (h : mm_Hp) {q ci : Nat} {fs : List Nat} {r : vw_C} (hrc : vwCl[ci]? = some r) (hq : h.1[q]? = some (.inr (ci, fs))) (x : Int32) : mm_Ct 2 M_So_times [.ref q, .int x] h 0 0 (fun v h' => v = some (.int (f_So_times x)) ∧ h' = h) := by
  have hlt : q < h.1.length := (List.getElem?_eq_some_iff.mp hq).1
  refine mm_start pl_So (Nat.le_of_ble_eq_true rfl) ?_
  refine mm_B ok_So_times 0 2 (2, [some (.ref q), some (.int x)], [.int x, .ref q], h) [] rfl trivial ?_
  refine mm_cY (sc := "SchoolOnRaft$LightKind") (as := [.int x]) (st := []) (q := q) cw_Kd_times lk_So_7 si_Li_times su_So_Li su_Li_Kd in_Kd_times (by decide) hrc hq (mm_at ok_So_times (i := 2) rfl).1 (ct_Kd_times h q x) (by decide) ⟨by omega, by omega⟩ (Nat.le_of_ble_eq_true rfl) (mm_vs_c hlt (mm_vs_b (b := 0) rfl (Nat.zero_le _))) (fun v h' hqq => ?_)
  obtain ⟨rfl, hqe⟩ := hqq; rw [hqe]
  refine mm_B ok_So_times 3 4 (9, [some (.ref q), some (.int x)], [.int ((f_Kd_times x) + (x - x / 2 * 2))], h) [¬ (2 : Int32) = 0] rfl (show ¬ (2 : Int32) = 0 from (by first | exact mm_vi rfl | assumption | decide)) ?_
  exact mm_ri rfl (mm_at ok_So_times (i := 7) rfl).1 ⟨Nat.le_refl _, Nat.le_refl _⟩ ⟨congrArg some (congrArg Value.int (rfl)), rfl⟩
def f_So_keeps (x y : Int32) : Int32 := (if (f_Li_keeps x y) = 0 then (if (y - y / 2 * 2) = 0 then 1 else 0) else 1)
theorem zo_So_keeps (x y : Int32) : f_So_keeps x y = 0 ∨ f_So_keeps x y = 1 := by
  unfold f_So_keeps
  repeat' split
  all_goals first | exact Or.inl rfl | exact Or.inr rfl
theorem ct_So_keeps (h : mm_Hp) {q ci : Nat} {fs : List Nat} {r : vw_C} (hrc : vwCl[ci]? = some r) (hq : h.1[q]? = some (.inr (ci, fs))) (x y : Int32) : mm_Ct 2 M_So_keeps [.ref q, .int x, .int y] h 0 0 (fun v h' => v = some (.int (f_So_keeps x y)) ∧ h' = h) := by
  have hlt : q < h.1.length := (List.getElem?_eq_some_iff.mp hq).1
  refine mm_start pl_So (Nat.le_of_ble_eq_true rfl) ?_
  refine mm_B ok_So_keeps 0 3 (3, [some (.ref q), some (.int x), some (.int y)], [.int y, .int x, .ref q], h) [] rfl trivial ?_
  refine mm_cX (as := [.int x, .int y]) (st := []) (q := q) cw_Li_keeps lk_So_11 sm_Li_keeps su_So_Li in_Li_keeps (by decide) hrc hq (mm_at ok_So_keeps (i := 3) rfl).1 (ct_Li_keeps h q x y) (by decide) ⟨by omega, by omega⟩ (Nat.le_of_ble_eq_true rfl) (mm_vs_c hlt (mm_vs_b (b := 0) rfl (Nat.zero_le _))) (fun v h' hqq => ?_)
  obtain ⟨rfl, hqe⟩ := hqq; rw [hqe]
  refine mm_I ok_So_keeps 4 0 6 [some (.ref q), some (.int x), some (.int y)] [.int (f_Li_keeps x y)] h [] rfl trivial rfl rfl (fun h1 => ?_) (fun h1 => ?_)
  · refine mm_B ok_So_keeps 9 2 (20, [some (.ref q), some (.int x), some (.int y)], [.int 1], h) [] rfl trivial ?_
    exact mm_rz rfl (mm_at ok_So_keeps (i := 12) rfl).1 ⟨Nat.le_refl _, Nat.le_refl _⟩ (Or.inr rfl) ⟨congrArg some (congrArg Value.int (by simp only [f_So_keeps, if_neg h1])), rfl⟩
  · refine mm_I ok_So_keeps 5 3 12 [some (.ref q), some (.int x), some (.int y)] [.int (y - y / 2 * 2)] h [¬ (2 : Int32) = 0] rfl (show ¬ (2 : Int32) = 0 from (by first | exact mm_vi rfl | assumption | decide)) rfl rfl (fun h2 => ?_) (fun h2 => ?_)
    · refine mm_B ok_So_keeps 11 1 (20, [some (.ref q), some (.int x), some (.int y)], [.int 0], h) [] rfl trivial ?_
      exact mm_rz rfl (mm_at ok_So_keeps (i := 12) rfl).1 ⟨Nat.le_refl _, Nat.le_refl _⟩ (Or.inl rfl) ⟨congrArg some (congrArg Value.int (by simp only [f_So_keeps, if_pos h1, if_neg h2])), rfl⟩
    · refine mm_B ok_So_keeps 9 2 (20, [some (.ref q), some (.int x), some (.int y)], [.int 1], h) [] rfl trivial ?_
      exact mm_rz rfl (mm_at ok_So_keeps (i := 12) rfl).1 ⟨Nat.le_refl _, Nat.le_refl _⟩ (Or.inr rfl) ⟨congrArg some (congrArg Value.int (by simp only [f_So_keeps, if_pos h1, if_pos h2])), rfl⟩
def f_So_value (x : Int32) : Int32 := ((f_Li_value x) / 2)
theorem ct_So_value (h : mm_Hp) {q ci : Nat} {fs : List Nat} {r : vw_C} (hrc : vwCl[ci]? = some r) (hq : h.1[q]? = some (.inr (ci, fs))) (x : Int32) : mm_Ct 3 M_So_value [.ref q, .int x] h 0 0 (fun v h' => v = some (.int (f_So_value x)) ∧ h' = h) := by
  have hlt : q < h.1.length := (List.getElem?_eq_some_iff.mp hq).1
  refine mm_start pl_So (Nat.le_of_ble_eq_true rfl) ?_
  refine mm_B ok_So_value 0 2 (2, [some (.ref q), some (.int x)], [.int x, .ref q], h) [] rfl trivial ?_
  refine mm_cX (as := [.int x]) (st := []) (q := q) cw_Li_value lk_So_15 sm_Li_value su_So_Li in_Li_value (by decide) hrc hq (mm_at ok_So_value (i := 2) rfl).1 (ct_Li_value h hrc hq x) (by decide) ⟨by omega, by omega⟩ (Nat.le_of_ble_eq_true rfl) (mm_vs_c hlt (mm_vs_b (b := 0) rfl (Nat.zero_le _))) (fun v h' hqq => ?_)
  obtain ⟨rfl, hqe⟩ := hqq; rw [hqe]
  refine mm_B ok_So_value 3 2 (7, [some (.ref q), some (.int x)], [.int ((f_Li_value x) / 2)], h) [¬ (2 : Int32) = 0] rfl (show ¬ (2 : Int32) = 0 from (by first | exact mm_vi rfl | assumption | decide)) ?_
  exact mm_ri rfl (mm_at ok_So_value (i := 5) rfl).1 ⟨Nat.le_refl _, Nat.le_refl _⟩ ⟨congrArg some (congrArg Value.int (rfl)), rfl⟩
def f_Pk_value (x : Int32) : Int32 := ((f_Lo_value x) + 7)
theorem ct_Pk_value (h : mm_Hp) {q ci : Nat} {fs : List Nat} {r : vw_C} (hrc : vwCl[ci]? = some r) (hq : h.1[q]? = some (.inr (ci, fs))) (x : Int32) : mm_Ct 3 M_Pk_value [.ref q, .int x] h 0 0 (fun v h' => v = some (.int (f_Pk_value x)) ∧ h' = h) := by
  have hlt : q < h.1.length := (List.getElem?_eq_some_iff.mp hq).1
  refine mm_start pl_Pk (Nat.le_of_ble_eq_true rfl) ?_
  refine mm_B ok_Pk_value 0 2 (2, [some (.ref q), some (.int x)], [.int x, .ref q], h) [] rfl trivial ?_
  refine mm_cX (as := [.int x]) (st := []) (q := q) cw_Lo_value lk_Pk_7 sm_Lo_value su_Pk_Lo in_Lo_value (by decide) hrc hq (mm_at ok_Pk_value (i := 2) rfl).1 (ct_Lo_value h hrc hq x) (by decide) ⟨by omega, by omega⟩ (Nat.le_of_ble_eq_true rfl) (mm_vs_c hlt (mm_vs_b (b := 0) rfl (Nat.zero_le _))) (fun v h' hqq => ?_)
  obtain ⟨rfl, hqe⟩ := hqq; rw [hqe]
  refine mm_B ok_Pk_value 3 2 (8, [some (.ref q), some (.int x)], [.int ((f_Lo_value x) + 7)], h) [] rfl trivial ?_
  exact mm_ri rfl (mm_at ok_Pk_value (i := 5) rfl).1 ⟨Nat.le_refl _, Nat.le_refl _⟩ ⟨congrArg some (congrArg Value.int (rfl)), rfl⟩
end
section
/-! ===== scratch cells; the abstract state and what is said of it ===== -/
/-- places whose values last no longer than a call -/
def nr_s (k j : Nat) : Bool := match k with
  | 13 => true
  | 14 => true
  | 27 => true
  | 28 => true
  | 29 => true
  | 30 => true
  | 31 => Nat.ble 2 j
  | 33 => true
  | 43 => true
  | 44 => true
  | 52 => (Nat.ble 16 j && Nat.ble j 30) || j == 39 || j == 0
  | 63 => true
  | 64 => true
  | 65 => true
  | 66 => true
  | 67 => true
  | 68 => true
  | 69 => true
  | 70 => true
  | 71 => true
  | _ => false
def nr_ (g : Nat → Nat → Int32) : Nat → Nat → Int32 := fun k j => bif nr_s k j then 0 else g k j
theorem nr_at {g P : Nat → Nat → Int32} (hP : nr_ g = P) (k j : Nat) (hs : nr_s k j = false) : g k j = P k j := by
  rw [← hP]
  simp [nr_, hs]
theorem nr_up {g P : Nat → Nat → Int32} (hP : nr_ g = P) {k j : Nat} (v : Int32) (hs : nr_s k j = true) : nr_ (mm_up g k j v) = P := by
  rw [← hP]
  funext a b
  by_cases h : a = k ∧ b = j
  · obtain ⟨rfl, rfl⟩ := h
    simp [nr_, hs]
  · have : (a == k && b == j) = false := by
      cases h1 : (a == k && b == j) with
      | false => rfl
      | true => simp at h1; exact absurd h1 h
    simp [nr_, mm_up, this]
theorem nr_put {g P : Nat → Nat → Int32} (hP : nr_ g = P) {k j : Nat} (v : Int32) (hs : nr_s k j = false) : nr_ (mm_up g k j v) = mm_up P k j v := by
  rw [← hP]
  funext a b
  by_cases h : a = k ∧ b = j
  · obtain ⟨rfl, rfl⟩ := h
    simp [nr_, hs, mm_up]
  · have : (a == k && b == j) = false := by
      cases h1 : (a == k && b == j) with
      | false => rfl
      | true => simp at h1; exact absurd h1 h
    simp [nr_, mm_up, this]
/-- lessons: how many, kinds, numbers, needs -/
abbrev sp_T : Type := Nat × (Nat → Nat) × (Nat → Nat) × (Nat → Nat)
/-- by kind and number -/
def sp_kp (k n d : Nat) : Bool := match k with
  | 2 => decide (d ≤ n)
  | 3 => decide (d ≤ 4)
  | 4 => decide (d ≤ n) || decide (d % 2 = 0)
  | _ => true
def sp_tm (k n : Nat) : Nat := match k with
  | 1 => 1 + n % 3
  | 3 => 2 + n % 3
  | 4 => 1 + n % 2
  | 5 => 1 + n % 3
  | _ => 1
def sp_vl (k n : Nat) : Nat := match k with
  | 0 => 10 + n
  | 1 => 2 * (10 + n)
  | 2 => 5 + n
  | 3 => 2 * (10 + n) + n
  | 4 => (5 + n) / 2
  | _ => 2 * (10 + n) + 7
def sp_keeps (T : sp_T) (l d : Nat) : Bool := sp_kp (T.2.1 l) (T.2.2.1 l) d
def sp_times (T : sp_T) (l : Nat) : Nat := sp_tm (T.2.1 l) (T.2.2.1 l)
def sp_value (T : sp_T) (l : Nat) : Nat := sp_vl (T.2.1 l) (T.2.2.1 l)
/-- what a child carries: how often it heard each lesson; the bend of the latest understanding, and 1 (0: none) -/
abbrev sp_C : Type := (Nat → Nat) × (Nat → Nat)
def sp_hs (T : sp_T) (t : Nat → Nat) (b l : Nat) : Bool := decide (t l ≠ 0) && sp_keeps T l (b + 1 - t l)
def sp_bits (T : sp_T) (t : Nat → Nat) (b : Nat) : Nat → Nat
  | 0 => 0
  | n + 1 => sp_bits T t b n + (if sp_hs T t b n = true then 2 ^ n else 0)
def sp_has (T : sp_T) (t : Nat → Nat) (b : Nat) : Nat := sp_bits T t b T.1
def sp_pc (n : Nat) : Nat := n % 2 + n / 2 % 2 + n / 4 % 2 + n / 8 % 2
def sp_up (f : Nat → Nat) (k v : Nat) : Nat → Nat := fun j => if j = k then v else f j
/-- the program's and the model's cells hold the lessons -/
def rl_L (T : sp_T) (P : Nat → Nat → Int32) : Prop := P 2 0 = nI T.1 ∧ T.1 ≤ 4 ∧ (∀ l, l < T.1 → P 3 l = nI (T.2.1 l) ∧ T.2.1 l < 6 ∧ P 4 l = nI (T.2.2.1 l) ∧ T.2.2.1 l ≤ 9 ∧ P 5 l = nI (T.2.2.2 l) ∧ T.2.2.2 l < 2 ^ l) ∧ ∀ j, j < 6 → P 12 j = nI (20 + j)
def rl_LM (T : sp_T) (P : Nat → Nat → Int32) : Prop := P 52 10 = nI T.1 ∧ T.1 ≤ 4 ∧ ∀ l, l < T.1 → P 56 l = nI (T.2.1 l) ∧ T.2.1 l < 6 ∧ P 57 l = nI (T.2.2.1 l) ∧ T.2.2.1 l ≤ 9 ∧ P 58 l = nI (T.2.2.2 l) ∧ T.2.2.2 l < 2 ^ l
theorem nI_vi {n N : Nat} (h : n < N) (hN : N < 2 ^ 31) : vp_in (nI n) N := vp_in_nI h hN
theorem sp_bits_lt (T : sp_T) (t : Nat → Nat) (b : Nat) : ∀ n, sp_bits T t b n < 2 ^ n
  | 0 => by simp [sp_bits]
  | n + 1 => by
    have := sp_bits_lt T t b n
    simp only [sp_bits]
    have h2 : 2 ^ (n + 1) = 2 ^ n + 2 ^ n := by rw [Nat.pow_succ]; omega
    split <;> omega
/-- nothing but the places s has changed -/
def fr_ (s : Nat → Nat → Bool) (g g' : Nat → Nat → Int32) : Prop := ∀ k j, s k j = false → g' k j = g k j
theorem fr_.rf {s : Nat → Nat → Bool} {g : Nat → Nat → Int32} : fr_ s g g := fun _ _ _ => rfl
theorem fr_.tr {s : Nat → Nat → Bool} {g g1 g2 : Nat → Nat → Int32} (h1 : fr_ s g g1) (h2 : fr_ s g1 g2) : fr_ s g g2 := fun k j h => (h2 k j h).trans (h1 k j h)
theorem fr_.mono {s s' : Nat → Nat → Bool} {g g' : Nat → Nat → Int32} (hs : ∀ k j, s' k j = false → s k j = false) (h : fr_ s g g') : fr_ s' g g' := fun k j q => h k j (hs k j q)
theorem fr_.up {s : Nat → Nat → Bool} {g g1 : Nat → Nat → Int32} {k j : Nat} (v : Int32) (h : fr_ s g g1) (hs : s k j = true) : fr_ s g (mm_up g1 k j v) := by
  intro a b q
  by_cases e : a = k ∧ b = j
  · obtain ⟨rfl, rfl⟩ := e
    rw [hs] at q
    cases q
  · have : (a == k && b == j) = false := by
      cases h1 : (a == k && b == j) with
      | false => rfl
      | true => simp at h1; exact absurd h1 e
    simp only [mm_up, this]
    exact h a b q
theorem fr_.nr {s : Nat → Nat → Bool} {g g' P : Nat → Nat → Int32} (h : fr_ s g g') (hs : ∀ k j, nr_s k j = false → s k j = false) (hP : nr_ g = P) : nr_ g' = P := by
  rw [← hP]
  funext k j
  cases q : nr_s k j with
  | true => simp [nr_, q]
  | false => simp [nr_, q, h k j (hs k j q)]
/-- scene and stack -/
def f1_ (k _ : Nat) : Bool := k == 13 || k == 14
theorem f1_nr : ∀ k j, nr_s k j = false → f1_ k j = false := by
  intro k j h
  unfold f1_
  cases h13 : k == 13 with
  | true => rw [show k = 13 by simpa using h13] at h; cases h
  | false =>
    cases h14 : k == 14 with
    | true => rw [show k = 14 by simpa using h14] at h; cases h
    | false => rfl
end
section
/-! ===== calls on a kind, of the six at cells 19 .. 24 ===== -/
def vt_times (k : Nat) (x : Int32) : Int32 := match k with
  | 0 => f_Kd_times x
  | 1 => f_Lo_times x
  | 2 => f_Kd_times x
  | 3 => f_Hk_times x
  | 4 => f_So_times x
  | _ => f_Lo_times x
theorem vc_times {d : Nat} {M : mm_M} {mc ms : Nat} {Q : Option Value → mm_Hp → Prop} {nc ns pc : Nat} {lv : mm_L} {st : List Value} {dy : List mm_Sh} {g : Nat → Nat → Int32} {r : (Nat → Nat → Int64) × Nat × (Nat → Int32)} {idx k : Nat} {x : Int32} (hk : k < 6) (hlk : Cond.methodLink M.1.cls idx M_Kd_times.1 ∈ mm_G) (hd : decode M.2.1 pc = .ok (.invokevirtual idx, 3)) (hdd : 4 ≤ d) (hm : nc ≤ mc ∧ ns ≤ ms) (hcat : (st.map Value.category).sum ≤ 8) (hvs : mm_vs (hp_SH ++ dy).length lv st) (kk : mm_W d M mc ms Q nc ns (pc + 3, lv, .int (vt_times k x) :: st, (hp_SH ++ dy, g, r))) : mm_W d M mc ms Q nc ns (pc, lv, .int x :: .ref (19 + k) :: st, (hp_SH ++ dy, g, r)) := by
  match k, hk, kk with
  | 0, _, kk =>
    refine mm_cV (as := [.int x]) (st := st) (q := 19) cw_Kd_times hlk in_Kd_times sl_Kd_times rfl rfl hd (ct_Kd_times _ 19 x) (Nat.le_trans (by decide) hdd) hm hcat hvs (fun v h' hqq => ?_)
    obtain ⟨rfl, hqe⟩ := hqq
    rw [hqe]
    exact kk
  | 1, _, kk =>
    refine mm_cU (x := M_Kd_times.1) (as := [.int x]) (st := st) (q := 20) cw_Lo_times hlk sm_Kd_times in_Kd_times cw_Kd_times.1 ⟨by decide, by decide, rfl⟩ in_Lo_times sl_Lo_Kd_times_Lo_times rfl rfl hd (ct_Lo_times _ (q := 20) (ci := 4) rfl rfl x) (Nat.le_trans (by decide) hdd) hm hcat hvs (fun v h' hqq => ?_)
    obtain ⟨rfl, hqe⟩ := hqq
    rw [hqe]
    exact kk
  | 2, _, kk =>
    refine mm_cU (x := M_Kd_times.1) (as := [.int x]) (st := st) (q := 21) cw_Kd_times hlk sm_Kd_times in_Kd_times cw_Kd_times.1 ⟨by decide, by decide, rfl⟩ in_Kd_times sl_Li_Kd_times_Kd_times rfl rfl hd (ct_Kd_times _ 21 x) (Nat.le_trans (by decide) hdd) hm hcat hvs (fun v h' hqq => ?_)
    obtain ⟨rfl, hqe⟩ := hqq
    rw [hqe]
    exact kk
  | 3, _, kk =>
    refine mm_cU (x := M_Kd_times.1) (as := [.int x]) (st := st) (q := 22) cw_Hk_times hlk sm_Kd_times in_Kd_times cw_Kd_times.1 ⟨by decide, by decide, rfl⟩ in_Hk_times sl_Hk_Kd_times_Hk_times rfl rfl hd (ct_Hk_times _ (q := 22) (ci := 1) rfl rfl x) (Nat.le_trans (by decide) hdd) hm hcat hvs (fun v h' hqq => ?_)
    obtain ⟨rfl, hqe⟩ := hqq
    rw [hqe]
    exact kk
  | 4, _, kk =>
    refine mm_cU (x := M_Kd_times.1) (as := [.int x]) (st := st) (q := 23) cw_So_times hlk sm_Kd_times in_Kd_times cw_Kd_times.1 ⟨by decide, by decide, rfl⟩ in_So_times sl_So_Kd_times_So_times rfl rfl hd (ct_So_times _ (q := 23) (ci := 8) rfl rfl x) (Nat.le_trans (by decide) hdd) hm hcat hvs (fun v h' hqq => ?_)
    obtain ⟨rfl, hqe⟩ := hqq
    rw [hqe]
    exact kk
  | 5, _, kk =>
    refine mm_cU (x := M_Kd_times.1) (as := [.int x]) (st := st) (q := 24) cw_Lo_times hlk sm_Kd_times in_Kd_times cw_Kd_times.1 ⟨by decide, by decide, rfl⟩ in_Lo_times sl_Pk_Kd_times_Lo_times rfl rfl hd (ct_Lo_times _ (q := 24) (ci := 5) rfl rfl x) (Nat.le_trans (by decide) hdd) hm hcat hvs (fun v h' hqq => ?_)
    obtain ⟨rfl, hqe⟩ := hqq
    rw [hqe]
    exact kk
def vt_keeps (k : Nat) (x y : Int32) : Int32 := match k with
  | 0 => f_Kd_keeps x y
  | 1 => f_Kd_keeps x y
  | 2 => f_Li_keeps x y
  | 3 => f_Hk_keeps x y
  | 4 => f_So_keeps x y
  | _ => f_Kd_keeps x y
theorem vc_keeps {d : Nat} {M : mm_M} {mc ms : Nat} {Q : Option Value → mm_Hp → Prop} {nc ns pc : Nat} {lv : mm_L} {st : List Value} {dy : List mm_Sh} {g : Nat → Nat → Int32} {r : (Nat → Nat → Int64) × Nat × (Nat → Int32)} {idx k : Nat} {x y : Int32} (hk : k < 6) (hlk : Cond.methodLink M.1.cls idx M_Kd_keeps.1 ∈ mm_G) (hd : decode M.2.1 pc = .ok (.invokevirtual idx, 3)) (hdd : 3 ≤ d) (hm : nc ≤ mc ∧ ns ≤ ms) (hcat : (st.map Value.category).sum ≤ 8) (hvs : mm_vs (hp_SH ++ dy).length lv st) (kk : mm_W d M mc ms Q nc ns (pc + 3, lv, .int (vt_keeps k x y) :: st, (hp_SH ++ dy, g, r))) : mm_W d M mc ms Q nc ns (pc, lv, .int y :: .int x :: .ref (19 + k) :: st, (hp_SH ++ dy, g, r)) := by
  match k, hk, kk with
  | 0, _, kk =>
    refine mm_cV (as := [.int x, .int y]) (st := st) (q := 19) cw_Kd_keeps hlk in_Kd_keeps sl_Kd_keeps rfl rfl hd (ct_Kd_keeps _ 19 x y) (Nat.le_trans (by decide) hdd) hm hcat hvs (fun v h' hqq => ?_)
    obtain ⟨rfl, hqe⟩ := hqq
    rw [hqe]
    exact kk
  | 1, _, kk =>
    refine mm_cU (x := M_Kd_keeps.1) (as := [.int x, .int y]) (st := st) (q := 20) cw_Kd_keeps hlk sm_Kd_keeps in_Kd_keeps cw_Kd_keeps.1 ⟨by decide, by decide, rfl⟩ in_Kd_keeps sl_Lo_Kd_keeps_Kd_keeps rfl rfl hd (ct_Kd_keeps _ 20 x y) (Nat.le_trans (by decide) hdd) hm hcat hvs (fun v h' hqq => ?_)
    obtain ⟨rfl, hqe⟩ := hqq
    rw [hqe]
    exact kk
  | 2, _, kk =>
    refine mm_cU (x := M_Kd_keeps.1) (as := [.int x, .int y]) (st := st) (q := 21) cw_Li_keeps hlk sm_Kd_keeps in_Kd_keeps cw_Kd_keeps.1 ⟨by decide, by decide, rfl⟩ in_Li_keeps sl_Li_Kd_keeps_Li_keeps rfl rfl hd (ct_Li_keeps _ 21 x y) (Nat.le_trans (by decide) hdd) hm hcat hvs (fun v h' hqq => ?_)
    obtain ⟨rfl, hqe⟩ := hqq
    rw [hqe]
    exact kk
  | 3, _, kk =>
    refine mm_cU (x := M_Kd_keeps.1) (as := [.int x, .int y]) (st := st) (q := 22) cw_Hk_keeps hlk sm_Kd_keeps in_Kd_keeps cw_Kd_keeps.1 ⟨by decide, by decide, rfl⟩ in_Hk_keeps sl_Hk_Kd_keeps_Hk_keeps rfl rfl hd (ct_Hk_keeps _ (q := 22) (ci := 1) rfl rfl x y) (Nat.le_trans (by decide) hdd) hm hcat hvs (fun v h' hqq => ?_)
    obtain ⟨rfl, hqe⟩ := hqq
    rw [hqe]
    exact kk
  | 4, _, kk =>
    refine mm_cU (x := M_Kd_keeps.1) (as := [.int x, .int y]) (st := st) (q := 23) cw_So_keeps hlk sm_Kd_keeps in_Kd_keeps cw_Kd_keeps.1 ⟨by decide, by decide, rfl⟩ in_So_keeps sl_So_Kd_keeps_So_keeps rfl rfl hd (ct_So_keeps _ (q := 23) (ci := 8) rfl rfl x y) (Nat.le_trans (by decide) hdd) hm hcat hvs (fun v h' hqq => ?_)
    obtain ⟨rfl, hqe⟩ := hqq
    rw [hqe]
    exact kk
  | 5, _, kk =>
    refine mm_cU (x := M_Kd_keeps.1) (as := [.int x, .int y]) (st := st) (q := 24) cw_Kd_keeps hlk sm_Kd_keeps in_Kd_keeps cw_Kd_keeps.1 ⟨by decide, by decide, rfl⟩ in_Kd_keeps sl_Pk_Kd_keeps_Kd_keeps rfl rfl hd (ct_Kd_keeps _ 24 x y) (Nat.le_trans (by decide) hdd) hm hcat hvs (fun v h' hqq => ?_)
    obtain ⟨rfl, hqe⟩ := hqq
    rw [hqe]
    exact kk
def vt_value (k : Nat) (x : Int32) : Int32 := match k with
  | 0 => f_Kd_value x
  | 1 => f_Lo_value x
  | 2 => f_Li_value x
  | 3 => f_Hk_value x
  | 4 => f_So_value x
  | _ => f_Pk_value x
theorem vc_value {d : Nat} {M : mm_M} {mc ms : Nat} {Q : Option Value → mm_Hp → Prop} {nc ns pc : Nat} {lv : mm_L} {st : List Value} {dy : List mm_Sh} {g : Nat → Nat → Int32} {r : (Nat → Nat → Int64) × Nat × (Nat → Int32)} {idx k : Nat} {x : Int32} (hk : k < 6) (hlk : Cond.methodLink M.1.cls idx M_Kd_value.1 ∈ mm_G) (hd : decode M.2.1 pc = .ok (.invokevirtual idx, 3)) (hdd : 4 ≤ d) (hm : nc ≤ mc ∧ ns ≤ ms) (hcat : (st.map Value.category).sum ≤ 8) (hvs : mm_vs (hp_SH ++ dy).length lv st) (kk : mm_W d M mc ms Q nc ns (pc + 3, lv, .int (vt_value k x) :: st, (hp_SH ++ dy, g, r))) : mm_W d M mc ms Q nc ns (pc, lv, .int x :: .ref (19 + k) :: st, (hp_SH ++ dy, g, r)) := by
  match k, hk, kk with
  | 0, _, kk =>
    refine mm_cV (as := [.int x]) (st := st) (q := 19) cw_Kd_value hlk in_Kd_value sl_Kd_value rfl rfl hd (ct_Kd_value _ 19 x) (Nat.le_trans (by decide) hdd) hm hcat hvs (fun v h' hqq => ?_)
    obtain ⟨rfl, hqe⟩ := hqq
    rw [hqe]
    exact kk
  | 1, _, kk =>
    refine mm_cU (x := M_Kd_value.1) (as := [.int x]) (st := st) (q := 20) cw_Lo_value hlk sm_Kd_value in_Kd_value cw_Kd_value.1 ⟨by decide, by decide, rfl⟩ in_Lo_value sl_Lo_Kd_value_Lo_value rfl rfl hd (ct_Lo_value _ (q := 20) (ci := 4) rfl rfl x) (Nat.le_trans (by decide) hdd) hm hcat hvs (fun v h' hqq => ?_)
    obtain ⟨rfl, hqe⟩ := hqq
    rw [hqe]
    exact kk
  | 2, _, kk =>
    refine mm_cU (x := M_Kd_value.1) (as := [.int x]) (st := st) (q := 21) cw_Li_value hlk sm_Kd_value in_Kd_value cw_Kd_value.1 ⟨by decide, by decide, rfl⟩ in_Li_value sl_Li_Kd_value_Li_value rfl rfl hd (ct_Li_value _ (q := 21) (ci := 3) rfl rfl x) (Nat.le_trans (by decide) hdd) hm hcat hvs (fun v h' hqq => ?_)
    obtain ⟨rfl, hqe⟩ := hqq
    rw [hqe]
    exact kk
  | 3, _, kk =>
    refine mm_cU (x := M_Kd_value.1) (as := [.int x]) (st := st) (q := 22) cw_Hk_value hlk sm_Kd_value in_Kd_value cw_Kd_value.1 ⟨by decide, by decide, rfl⟩ in_Hk_value sl_Hk_Kd_value_Hk_value rfl rfl hd (ct_Hk_value _ (q := 22) (ci := 1) rfl rfl x) (Nat.le_trans (by decide) hdd) hm hcat hvs (fun v h' hqq => ?_)
    obtain ⟨rfl, hqe⟩ := hqq
    rw [hqe]
    exact kk
  | 4, _, kk =>
    refine mm_cU (x := M_Kd_value.1) (as := [.int x]) (st := st) (q := 23) cw_So_value hlk sm_Kd_value in_Kd_value cw_Kd_value.1 ⟨by decide, by decide, rfl⟩ in_So_value sl_So_Kd_value_So_value rfl rfl hd (ct_So_value _ (q := 23) (ci := 8) rfl rfl x) (Nat.le_trans (by decide) hdd) hm hcat hvs (fun v h' hqq => ?_)
    obtain ⟨rfl, hqe⟩ := hqq
    rw [hqe]
    exact kk
  | 5, _, kk =>
    refine mm_cU (x := M_Kd_value.1) (as := [.int x]) (st := st) (q := 24) cw_Pk_value hlk sm_Kd_value in_Kd_value cw_Kd_value.1 ⟨by decide, by decide, rfl⟩ in_Pk_value sl_Pk_Kd_value_Pk_value rfl rfl hd (ct_Pk_value _ (q := 24) (ci := 5) rfl rfl x) (Nat.le_trans (by decide) hdd) hm hcat hvs (fun v h' hqq => ?_)
    obtain ⟨rfl, hqe⟩ := hqq
    rw [hqe]
    exact kk
theorem vn_keeps : ∀ k, k < 6 → ∀ n, n < 10 → ∀ d, d < 8 → vt_keeps k (nI n) (nI d) = if sp_kp k n d = true then 1 else 0 := by decide +kernel
theorem vn_times : ∀ k, k < 6 → ∀ n, n < 10 → vt_times k (nI n) = nI (sp_tm k n) := by decide +kernel
theorem vn_value : ∀ k, k < 6 → ∀ n, n < 10 → vt_value k (nI n) = nI (sp_vl k n) := by decide +kernel
end
section
/-! ===== a child's memory as one number ===== -/
theorem bt_and (a b : Nat) : nI a &&& nI b = nI (a &&& b) := by
  apply Int32.toBitVec_inj.mp
  show BitVec.ofNat 32 a &&& BitVec.ofNat 32 b = BitVec.ofNat 32 (a &&& b)
  apply BitVec.eq_of_toNat_eq
  simp [BitVec.toNat_and, Nat.and_mod_two_pow]
theorem bt_or (a b : Nat) : nI a ||| nI b = nI (a ||| b) := by
  apply Int32.toBitVec_inj.mp
  show BitVec.ofNat 32 a ||| BitVec.ofNat 32 b = BitVec.ofNat 32 (a ||| b)
  apply BitVec.eq_of_toNat_eq
  simp [BitVec.toNat_or, Nat.or_mod_two_pow]
/-- three bits at place p are put anew -/
theorem bt_put (hi dg lo p v : Nat) (hlo : lo < 2 ^ p) (hdg : dg < 8) (hv : v < 8) (hp : p ≤ 29) (hhi : hi < 2 ^ (29 - p)) : ((2 ^ p * (2 ^ 3 * hi + dg) + lo) &&& (2 ^ p * (2 ^ 3 * (2 ^ (29 - p) - 1) + 0) + (2 ^ p - 1))) ||| (2 ^ p * (2 ^ 3 * 0 + v) + 0) = 2 ^ p * (2 ^ 3 * hi + v) + lo := by
  have h0 : 0 < 2 ^ p := Nat.two_pow_pos p
  apply Nat.eq_of_testBit_eq
  intro i
  rw [Nat.testBit_or, Nat.testBit_and, Nat.testBit_two_pow_mul_add _ hlo, Nat.testBit_two_pow_mul_add _ (show 2 ^ p - 1 < 2 ^ p by omega), Nat.testBit_two_pow_mul_add _ h0, Nat.testBit_two_pow_mul_add _ hlo]
  by_cases hi1 : i < p
  · simp [hi1]
  · simp only [if_neg hi1]
    rw [Nat.testBit_two_pow_mul_add _ (show dg < 2 ^ 3 from hdg), Nat.testBit_two_pow_mul_add _ (show 0 < 2 ^ 3 by decide), Nat.testBit_two_pow_mul_add _ (show v < 2 ^ 3 from hv), Nat.testBit_two_pow_mul_add _ (show v < 2 ^ 3 from hv)]
    by_cases hi2 : i - p < 3
    · simp [hi2]
    · simp only [if_neg hi2]
      rw [Nat.testBit_two_pow_sub_one]
      by_cases hi3 : i - p - 3 < 29 - p
      · simp [hi3]
      · have : hi.testBit (i - p - 3) = false := Nat.testBit_lt_two_pow (Nat.lt_of_lt_of_le hhi (Nat.pow_le_pow_right (by decide) (by omega)))
        simp [this]
def sp_enc (c : sp_C) : Nat := c.1 0 + 8 * c.1 1 + 64 * c.1 2 + 512 * c.1 3 + 4096 * c.2 0 + 32768 * c.2 1 + 262144 * c.2 2 + 2097152 * c.2 3
def sp_ok (c : sp_C) : Prop := ∀ l, l < 4 → c.1 l < 7 ∧ c.2 l < 7
theorem sp_ok4 {c : sp_C} (h : sp_ok c) : (c.1 0 < 7 ∧ c.1 1 < 7 ∧ c.1 2 < 7 ∧ c.1 3 < 7) ∧ (c.2 0 < 7 ∧ c.2 1 < 7 ∧ c.2 2 < 7 ∧ c.2 3 < 7) :=
  ⟨⟨(h 0 (by decide)).1, (h 1 (by decide)).1, (h 2 (by decide)).1, (h 3 (by decide)).1⟩, (h 0 (by decide)).2, (h 1 (by decide)).2, (h 2 (by decide)).2, (h 3 (by decide)).2⟩
theorem sp_enc_lt {c : sp_C} (h : sp_ok c) : sp_enc c < 16777216 := by
  obtain ⟨⟨a0, a1, a2, a3⟩, b0, b1, b2, b3⟩ := sp_ok4 h
  unfold sp_enc
  omega
theorem me_times {c : sp_C} (h : sp_ok c) {l : Nat} (hl : l < 4) : f_Sp_timesHeard (nI (sp_enc c)) (nI l) = nI (c.1 l) := by
  have hE := sp_enc_lt h
  obtain ⟨⟨a0, a1, a2, a3⟩, b0, b1, b2, b3⟩ := sp_ok4 h
  unfold f_Sp_timesHeard
  match l, hl with
  | 0, _ => rw [pk_shrN (by omega) _ 0 (by decide), pk_andN (by omega) 3 (by decide)]; congr 1; unfold sp_enc; omega
  | 1, _ => rw [pk_shrN (by omega) _ 3 (by decide), pk_andN (by omega) 3 (by decide)]; congr 1; unfold sp_enc; omega
  | 2, _ => rw [pk_shrN (by omega) _ 6 (by decide), pk_andN (by omega) 3 (by decide)]; congr 1; unfold sp_enc; omega
  | 3, _ => rw [pk_shrN (by omega) _ 9 (by decide), pk_andN (by omega) 3 (by decide)]; congr 1; unfold sp_enc; omega
theorem me_last {c : sp_C} (h : sp_ok c) {l : Nat} (hl : l < 4) : f_Sp_lastUnderstood (nI (sp_enc c)) (nI l) = nI (c.2 l) - 1 := by
  have hE := sp_enc_lt h
  obtain ⟨⟨a0, a1, a2, a3⟩, b0, b1, b2, b3⟩ := sp_ok4 h
  unfold f_Sp_lastUnderstood
  match l, hl with
  | 0, _ => rw [pk_shrN (by omega) _ 12 (by decide), pk_andN (by omega) 3 (by decide)]; congr 2; unfold sp_enc; omega
  | 1, _ => rw [pk_shrN (by omega) _ 15 (by decide), pk_andN (by omega) 3 (by decide)]; congr 2; unfold sp_enc; omega
  | 2, _ => rw [pk_shrN (by omega) _ 18 (by decide), pk_andN (by omega) 3 (by decide)]; congr 2; unfold sp_enc; omega
  | 3, _ => rw [pk_shrN (by omega) _ 21 (by decide), pk_andN (by omega) 3 (by decide)]; congr 2; unfold sp_enc; omega
/-- heard once more -/
theorem me_hear {c : sp_C} {l : Nat} (hl : l < 4) : nI (sp_enc c) + (1 <<< ((3 * nI l) &&& 31)) = nI (sp_enc (sp_up c.1 l (c.1 l + 1), c.2)) := by
  match l, hl with
  | 0, _ => rw [show (1 : Int32) <<< ((3 * nI 0) &&& 31) = nI 1 by decide, nI_add]; congr 1; simp [sp_enc, sp_up]; omega
  | 1, _ => rw [show (1 : Int32) <<< ((3 * nI 1) &&& 31) = nI 8 by decide, nI_add]; congr 1; simp [sp_enc, sp_up]; omega
  | 2, _ => rw [show (1 : Int32) <<< ((3 * nI 2) &&& 31) = nI 64 by decide, nI_add]; congr 1; simp [sp_enc, sp_up]; omega
  | 3, _ => rw [show (1 : Int32) <<< ((3 * nI 3) &&& 31) = nI 512 by decide, nI_add]; congr 1; simp [sp_enc, sp_up]; omega
theorem me_set1 {E p v : Nat} (hi dg lo : Nat) (hE : E = 2 ^ p * (2 ^ 3 * hi + dg) + lo) (hlo : lo < 2 ^ p) (hdg : dg < 8) (hv : v < 8) (hp : p ≤ 29) (hhi : hi < 2 ^ (29 - p)) {m w : Int32} (hm : m = nI (2 ^ p * (2 ^ 3 * (2 ^ (29 - p) - 1) + 0) + (2 ^ p - 1))) (hw : w = nI (2 ^ p * (2 ^ 3 * 0 + v) + 0)) : (nI E &&& m) ||| w = nI (2 ^ p * (2 ^ 3 * hi + v) + lo) := by
  rw [hm, hw, bt_and, bt_or, hE, bt_put hi dg lo p v hlo hdg hv hp hhi]
theorem me_m0 : ((7 : Int32) <<< ((12 + 3 * nI 0) &&& 31)) ^^^ (-1) = nI (2 ^ 12 * (2 ^ 3 * (2 ^ (29 - 12) - 1) + 0) + (2 ^ 12 - 1)) := by decide +kernel
theorem me_m1 : ((7 : Int32) <<< ((12 + 3 * nI 1) &&& 31)) ^^^ (-1) = nI (2 ^ 15 * (2 ^ 3 * (2 ^ (29 - 15) - 1) + 0) + (2 ^ 15 - 1)) := by decide +kernel
theorem me_m2 : ((7 : Int32) <<< ((12 + 3 * nI 2) &&& 31)) ^^^ (-1) = nI (2 ^ 18 * (2 ^ 3 * (2 ^ (29 - 18) - 1) + 0) + (2 ^ 18 - 1)) := by decide +kernel
theorem me_m3 : ((7 : Int32) <<< ((12 + 3 * nI 3) &&& 31)) ^^^ (-1) = nI (2 ^ 21 * (2 ^ 3 * (2 ^ (29 - 21) - 1) + 0) + (2 ^ 21 - 1)) := by decide +kernel
theorem me_b7 : ∀ b, b < 6 → ∀ l, l < 4 → (nI b + 1) <<< ((12 + 3 * nI l) &&& 31) = nI (2 ^ (12 + 3 * l) * (2 ^ 3 * 0 + (b + 1)) + 0) := by decide +kernel
/-- understood at bend b -/
theorem me_put {c : sp_C} (h : sp_ok c) {l b : Nat} (hl : l < 4) (hb : b < 6) : (nI (sp_enc c) &&& ((7 <<< ((12 + 3 * nI l) &&& 31)) ^^^ (-1))) ||| ((nI b + 1) <<< ((12 + 3 * nI l) &&& 31)) = nI (sp_enc (c.1, sp_up c.2 l (b + 1))) := by
  obtain ⟨⟨a0, a1, a2, a3⟩, b0, b1, b2, b3⟩ := sp_ok4 h
  match l, hl with
  | 0, hl =>
    have e0 : sp_enc c = 2 ^ 12 * (2 ^ 3 * (c.2 1 + 8 * c.2 2 + 64 * c.2 3) + (c.2 0)) + (c.1 0 + 8 * c.1 1 + 64 * c.1 2 + 512 * c.1 3) := by simp only [sp_enc, show (2 : Nat) ^ 12 = 4096 from rfl]; omega
    rw [me_set1 (p := 12) (v := b + 1) (c.2 1 + 8 * c.2 2 + 64 * c.2 3) (c.2 0) (c.1 0 + 8 * c.1 1 + 64 * c.1 2 + 512 * c.1 3) e0 (by rw [show (2 : Nat) ^ 12 = 4096 from rfl]; omega) (by omega) (by omega) (by decide) (by rw [show (2 : Nat) ^ (29 - 12) = 131072 from rfl]; omega) me_m0 (me_b7 b hb 0 hl)]
    refine congrArg nI ?_
    simp [sp_enc, sp_up]
    omega
  | 1, hl =>
    have e0 : sp_enc c = 2 ^ 15 * (2 ^ 3 * (c.2 2 + 8 * c.2 3) + (c.2 1)) + (c.1 0 + 8 * c.1 1 + 64 * c.1 2 + 512 * c.1 3 + 4096 * c.2 0) := by simp only [sp_enc, show (2 : Nat) ^ 15 = 32768 from rfl]; omega
    rw [me_set1 (p := 15) (v := b + 1) (c.2 2 + 8 * c.2 3) (c.2 1) (c.1 0 + 8 * c.1 1 + 64 * c.1 2 + 512 * c.1 3 + 4096 * c.2 0) e0 (by rw [show (2 : Nat) ^ 15 = 32768 from rfl]; omega) (by omega) (by omega) (by decide) (by rw [show (2 : Nat) ^ (29 - 15) = 16384 from rfl]; omega) me_m1 (me_b7 b hb 1 hl)]
    refine congrArg nI ?_
    simp [sp_enc, sp_up]
    omega
  | 2, hl =>
    have e0 : sp_enc c = 2 ^ 18 * (2 ^ 3 * (c.2 3) + (c.2 2)) + (c.1 0 + 8 * c.1 1 + 64 * c.1 2 + 512 * c.1 3 + 4096 * c.2 0 + 32768 * c.2 1) := by simp only [sp_enc, show (2 : Nat) ^ 18 = 262144 from rfl]; omega
    rw [me_set1 (p := 18) (v := b + 1) (c.2 3) (c.2 2) (c.1 0 + 8 * c.1 1 + 64 * c.1 2 + 512 * c.1 3 + 4096 * c.2 0 + 32768 * c.2 1) e0 (by rw [show (2 : Nat) ^ 18 = 262144 from rfl]; omega) (by omega) (by omega) (by decide) (by rw [show (2 : Nat) ^ (29 - 18) = 2048 from rfl]; omega) me_m2 (me_b7 b hb 2 hl)]
    refine congrArg nI ?_
    simp [sp_enc, sp_up]
    omega
  | 3, hl =>
    have e0 : sp_enc c = 2 ^ 21 * (2 ^ 3 * 0 + (c.2 3)) + (c.1 0 + 8 * c.1 1 + 64 * c.1 2 + 512 * c.1 3 + 4096 * c.2 0 + 32768 * c.2 1 + 262144 * c.2 2) := by simp only [sp_enc, show (2 : Nat) ^ 21 = 2097152 from rfl]; omega
    rw [me_set1 (p := 21) (v := b + 1) 0 (c.2 3) (c.1 0 + 8 * c.1 1 + 64 * c.1 2 + 512 * c.1 3 + 4096 * c.2 0 + 32768 * c.2 1 + 262144 * c.2 2) e0 (by rw [show (2 : Nat) ^ 21 = 2097152 from rfl]; omega) (by omega) (by omega) (by decide) (by rw [show (2 : Nat) ^ (29 - 21) = 256 from rfl]; omega) me_m3 (me_b7 b hb 3 hl)]
    refine congrArg nI ?_
    simp [sp_enc, sp_up]
    omega
/-- how many bits -/
theorem pc_bc : ∀ n, n < 16 → f_In_bitCount (nI n) = nI (sp_pc n) := by decide +kernel
/-- a bit more -/
theorem bt_bit : ∀ n, n < 4 → ∀ m, m < 2 ^ n → nI m ||| (1 <<< (nI n &&& 31)) = nI (m + 2 ^ n) := by decide
theorem bt_tst : ∀ m, m < 16 → ∀ l, l < 4 → (nI m >>> (nI l &&& 31)) &&& 1 = nI (m / 2 ^ l % 2) := by decide +kernel
end
section
/-! ===== Spring: which kind, what is owned ===== -/
theorem ct_Sp_kindOf (dy : List mm_Sh) (g P : Nat → Nat → Int32) (r : (Nat → Nat → Int64) × Nat × (Nat → Int32)) (hP : nr_ g = P) {T : sp_T} {l : Nat} (hL : rl_L T P) (hl : l < T.1) : mm_Ct 1 M_Sp_kindOf [.ref 1, .int (nI l)] (hp_SH ++ dy, g, r) 0 0 (fun v h' => v = some (.ref (19 + T.2.1 l)) ∧ h' = (hp_SH ++ dy, g, r)) := by
  obtain ⟨h20, h4, hls, hk⟩ := hL
  obtain ⟨h3, h6, -⟩ := hls l hl
  have e3 : g 3 (nI l).toNatClampNeg = nI (T.2.1 l) := by rw [nI_clamp (by omega), nr_at hP 3 l rfl]; exact h3
  have h12 : g 12 (T.2.1 l) = nI (20 + T.2.1 l) := by rw [nr_at hP 12 _ rfl]; exact hk _ h6
  refine mm_start pl_Sp (Nat.le_of_ble_eq_true rfl) ?_
  refine mm_B ok_Sp_kindOf 0 7 (13, [some (.ref 1), some (.int (nI l))], [.int (g 3 ((nI l).toNatClampNeg)), .ref 12], (hp_SH ++ dy, g, r)) [vp_in (nI l) 4] rfl (show vp_in (nI l) 4 from (nI_vi (by omega) (by decide))) ?_
  rw [e3]
  refine mm_aald (t := 3) (n := 6) (v := .ref (19 + T.2.1 l)) (Or.inr (Or.inl rfl)) rfl (nI_vi h6 (by decide)) ?_ (mm_at ok_Sp_kindOf (i := 7) rfl).1 ?_
  · show mm_rf (g 12 (nI (T.2.1 l)).toNatClampNeg) = _; rw [nI_clamp (by omega), h12]; unfold mm_rf; rw [if_neg (nI_nle (by omega) (by omega)), nI_clamp (by omega), show 20 + T.2.1 l - 1 = 19 + T.2.1 l by omega]
  exact mm_ra rfl (Or.inl ⟨_, rfl⟩) rfl (mm_at ok_Sp_kindOf (i := 8) rfl).1 ⟨Nat.le_refl _, Nat.le_refl _⟩ (⟨rfl, rfl⟩)
theorem ow_sub {t b : Nat} (h0 : t ≠ 0) (hb : t ≤ b + 1) : nI b - (nI t - 1) = nI (b + 1 - t) := by
  obtain ⟨u, rfl⟩ : ∃ u, t = u + 1 := ⟨t - 1, by omega⟩
  rw [nI_pred, pk_sub (by omega)]
  congr 1
  omega
theorem ow_lt : ∀ t, t < 7 → (nI t - 1 < 0 ↔ t = 0) := by decide
theorem lp_Sp_owned (dy : List mm_Sh) (g P : Nat → Nat → Int32) (r : (Nat → Nat → Int64) × Nat × (Nat → Int32)) (hP : nr_ g = P) {T : sp_T} {c : sp_C} {b : Nat} (hL : rl_L T P) (hc : sp_ok c) (hb : b < 6) (htb : ∀ l, l < T.1 → c.2 l ≤ b + 1) : ∀ (n k : Nat), k + n = T.1 → mm_W 5 M_Sp_owned 0 0 (fun v h' => v = some (.int (nI (sp_has T c.2 b))) ∧ h' = (hp_SH ++ dy, g, r)) 0 0 (5, [some (.ref 1), some (.int (nI (sp_enc c))), some (.int (nI b)), some (.int (nI (sp_bits T c.2 b k))), some (.int (nI k)), none], [], (hp_SH ++ dy, g, r)) := by
  have h4 : T.1 ≤ 4 := hL.2.1
  have e20 : g 2 0 = nI T.1 := by rw [nr_at hP 2 0 rfl]; exact hL.1
  intro n
  induction n with
  | zero =>
    intro k hk
    refine mm_B ok_Sp_owned 4 4 (14, [some (.ref 1), some (.int (nI (sp_enc c))), some (.int (nI b)), some (.int (nI (sp_bits T c.2 b k))), some (.int (nI k)), none], [.int (g 2 0), .int (nI k)], (hp_SH ++ dy, g, r)) [] rfl trivial ?_
    rw [e20]
    refine mm_I ok_Sp_owned 8 0 14 [some (.ref 1), some (.int (nI (sp_enc c))), some (.int (nI b)), some (.int (nI (sp_bits T c.2 b k))), some (.int (nI k)), none] [.int (nI T.1), .int (nI k)] (hp_SH ++ dy, g, r) [] rfl trivial rfl rfl (fun _ => ?_) (fun q => False.elim (q (nI_le (by omega) (by omega))))
    refine mm_B ok_Sp_owned 36 1 (70, [some (.ref 1), some (.int (nI (sp_enc c))), some (.int (nI b)), some (.int (nI (sp_bits T c.2 b k))), some (.int (nI k)), none], [.int (nI (sp_bits T c.2 b k))], (hp_SH ++ dy, g, r)) [] rfl trivial ?_
    have ek : k = T.1 := by omega
    rw [ek]
    exact mm_ri rfl (mm_at ok_Sp_owned (i := 37) rfl).1 ⟨Nat.le_refl _, Nat.le_refl _⟩ (⟨rfl, rfl⟩)
  | succ n ih =>
    intro k hk
    have hkL : k < T.1 := by omega
    have hk4 : k < 4 := by omega
    obtain ⟨-, h6, h4k, h9', -⟩ := hL.2.2.1 k hkL
    have h9 : T.2.2.1 k < 10 := by omega
    have hd8 : b + 1 - c.2 k < 8 := by omega
    have ht7 : c.2 k < 7 := (hc k hk4).2
    have e4 : g 4 (nI k).toNatClampNeg = nI (T.2.2.1 k) := by rw [nI_clamp (by omega), nr_at hP 4 k rfl]; exact h4k
    refine mm_B ok_Sp_owned 4 4 (14, [some (.ref 1), some (.int (nI (sp_enc c))), some (.int (nI b)), some (.int (nI (sp_bits T c.2 b k))), some (.int (nI k)), none], [.int (g 2 0), .int (nI k)], (hp_SH ++ dy, g, r)) [] rfl trivial ?_
    rw [e20]
    refine mm_I ok_Sp_owned 8 0 14 [some (.ref 1), some (.int (nI (sp_enc c))), some (.int (nI b)), some (.int (nI (sp_bits T c.2 b k))), some (.int (nI k)), none] [.int (nI T.1), .int (nI k)] (hp_SH ++ dy, g, r) [] rfl trivial rfl rfl (fun q => False.elim (nI_ge (show k < T.1 by omega) (by omega) q)) (fun _ => ?_)
    refine mm_B ok_Sp_owned 9 2 (20, [some (.ref 1), some (.int (nI (sp_enc c))), some (.int (nI b)), some (.int (nI (sp_bits T c.2 b k))), some (.int (nI k)), none], [.int (nI k), .int (nI (sp_enc c))], (hp_SH ++ dy, g, r)) [] rfl trivial ?_
    refine mm_cS (as := [.int (nI (sp_enc c)), .int (nI k)]) (st := []) cw_Sp_lastUnderstood lk_Sp_69 sx_Sp_lastUnderstood (mm_at ok_Sp_owned (i := 11) rfl).1 (ct_Sp_lastUnderstood (hp_SH ++ dy, g, r) (nI (sp_enc c)) (nI k)) (by decide) ⟨by omega, by omega⟩ (Nat.le_of_ble_eq_true rfl) (mm_vs_b (b := 77) rfl (hp_len dy)) (fun v h' hqq => ?_)
    obtain ⟨rfl, hqe⟩ := hqq; rw [hqe]
    refine mm_B ok_Sp_owned 12 2 (27, [some (.ref 1), some (.int (nI (sp_enc c))), some (.int (nI b)), some (.int (nI (sp_bits T c.2 b k))), some (.int (nI k)), some (.int (f_Sp_lastUnderstood (nI (sp_enc c)) (nI k)))], [.int (f_Sp_lastUnderstood (nI (sp_enc c)) (nI k))], (hp_SH ++ dy, g, r)) [] rfl trivial ?_
    rw [me_last hc hk4]
    refine mm_I ok_Sp_owned 14 0 27 [some (.ref 1), some (.int (nI (sp_enc c))), some (.int (nI b)), some (.int (nI (sp_bits T c.2 b k))), some (.int (nI k)), some (.int (nI (c.2 k) - 1))] [.int (nI (c.2 k) - 1)] (hp_SH ++ dy, g, r) [] rfl trivial rfl rfl (fun h1 => ?_) (fun h1 => ?_)
    · have h1 := (ow_lt _ ht7).mp h1
      refine mm_B ok_Sp_owned 34 2 (5, [some (.ref 1), some (.int (nI (sp_enc c))), some (.int (nI b)), some (.int (nI (sp_bits T c.2 b k))), some (.int ((nI k) + 1)), some (.int (nI (c.2 k) - 1))], [], (hp_SH ++ dy, g, r)) [] rfl trivial ?_
      rw [nI_1]
      have e9 : sp_bits T c.2 b (k + 1) = sp_bits T c.2 b k := by simp [sp_bits, sp_hs, h1]
      refine mm_fg [5] ?_
      have h8 := ih (k + 1) (by omega)
      rw [e9] at h8
      exact h8
    · have h1 : c.2 k ≠ 0 := fun e => h1 ((ow_lt _ ht7).mpr e)
      refine mm_B ok_Sp_owned 15 2 (33, [some (.ref 1), some (.int (nI (sp_enc c))), some (.int (nI b)), some (.int (nI (sp_bits T c.2 b k))), some (.int (nI k)), some (.int (nI (c.2 k) - 1))], [.int (nI k), .ref 1], (hp_SH ++ dy, g, r)) [] rfl trivial ?_
      refine mm_cV (as := [.int (nI k)]) (st := []) (q := 1) cw_Sp_kindOf lk_Sp_73 in_Sp_kindOf sl_Sp_kindOf rfl rfl (mm_at ok_Sp_owned (i := 17) rfl).1 (ct_Sp_kindOf dy g P r hP hL hkL) (by decide) ⟨by omega, by omega⟩ (Nat.le_of_ble_eq_true rfl) (mm_vs_b (b := 77) rfl (hp_len dy)) (fun v h' hqq => ?_)
      obtain ⟨rfl, hqe⟩ := hqq; rw [hqe]
      refine mm_B ok_Sp_owned 18 8 (50, [some (.ref 1), some (.int (nI (sp_enc c))), some (.int (nI b)), some (.int (nI (sp_bits T c.2 b k))), some (.int (nI k)), some (.int (nI (c.2 k) - 1))], [.int ((nI b) - (nI (c.2 k) - 1)), .int (g 4 ((nI k).toNatClampNeg)), .ref (19 + T.2.1 k)], (hp_SH ++ dy, g, r)) [vp_in (nI k) 4] rfl (show vp_in (nI k) 4 from (nI_vi hk4 (by decide))) ?_
      rw [e4]
      rw [ow_sub h1 (htb k hkL)]
      refine vc_keeps (k := T.2.1 k) h6 lk_Sp_80 (mm_at ok_Sp_owned (i := 26) rfl).1 (by decide) ⟨Nat.le_refl _, Nat.le_refl _⟩ (Nat.le_of_ble_eq_true rfl) (mm_vs_b (b := 77) rfl (hp_len dy)) ?_
      rw [vn_keeps _ h6 _ h9 _ hd8]
      by_cases hkp : sp_kp (T.2.1 k) (T.2.2.1 k) (b + 1 - c.2 k) = true
      · rw [if_pos hkp]
        refine mm_I ok_Sp_owned 27 0 53 [some (.ref 1), some (.int (nI (sp_enc c))), some (.int (nI b)), some (.int (nI (sp_bits T c.2 b k))), some (.int (nI k)), some (.int (nI (c.2 k) - 1))] [.int 1] (hp_SH ++ dy, g, r) [] rfl trivial rfl rfl (fun q => False.elim (absurd q (by decide))) (fun _ => ?_)
        refine mm_B ok_Sp_owned 28 8 (5, [some (.ref 1), some (.int (nI (sp_enc c))), some (.int (nI b)), some (.int ((nI (sp_bits T c.2 b k)) ||| (1 <<< ((nI k) &&& 31)))), some (.int ((nI k) + 1)), some (.int (nI (c.2 k) - 1))], [], (hp_SH ++ dy, g, r)) [] rfl trivial ?_
        rw [nI_1, bt_bit k hk4 _ (sp_bits_lt T c.2 b k)]
        have e9 : sp_bits T c.2 b (k + 1) = sp_bits T c.2 b k + 2 ^ k := by simp [sp_bits, sp_hs, sp_keeps, hkp, h1]
        refine mm_fg [5] ?_
        have h8 := ih (k + 1) (by omega)
        rw [e9] at h8
        exact h8
      · rw [if_neg hkp]
        refine mm_I ok_Sp_owned 27 0 53 [some (.ref 1), some (.int (nI (sp_enc c))), some (.int (nI b)), some (.int (nI (sp_bits T c.2 b k))), some (.int (nI k)), some (.int (nI (c.2 k) - 1))] [.int 0] (hp_SH ++ dy, g, r) [] rfl trivial rfl rfl (fun _ => ?_) (fun q => False.elim (q rfl))
        refine mm_B ok_Sp_owned 34 2 (5, [some (.ref 1), some (.int (nI (sp_enc c))), some (.int (nI b)), some (.int (nI (sp_bits T c.2 b k))), some (.int ((nI k) + 1)), some (.int (nI (c.2 k) - 1))], [], (hp_SH ++ dy, g, r)) [] rfl trivial ?_
        rw [nI_1]
        have e9 : sp_bits T c.2 b (k + 1) = sp_bits T c.2 b k := by simp [sp_bits, sp_hs, sp_keeps, hkp]
        refine mm_fg [5] ?_
        have h8 := ih (k + 1) (by omega)
        rw [e9] at h8
        exact h8
theorem ct_Sp_owned (dy : List mm_Sh) (g P : Nat → Nat → Int32) (r : (Nat → Nat → Int64) × Nat × (Nat → Int32)) (hP : nr_ g = P) {T : sp_T} {c : sp_C} {b : Nat} (hL : rl_L T P) (hc : sp_ok c) (hb : b < 6) (htb : ∀ l, l < T.1 → c.2 l ≤ b + 1) : mm_Ct 5 M_Sp_owned [.ref 1, .int (nI (sp_enc c)), .int (nI b)] (hp_SH ++ dy, g, r) 0 0 (fun v h' => v = some (.int (nI (sp_has T c.2 b))) ∧ h' = (hp_SH ++ dy, g, r)) := by
  refine mm_start pl_Sp (Nat.le_of_ble_eq_true rfl) ?_
  refine mm_B ok_Sp_owned 0 4 (5, [some (.ref 1), some (.int (nI (sp_enc c))), some (.int (nI b)), some (.int 0), some (.int 0), none], [], (hp_SH ++ dy, g, r)) [] rfl trivial ?_
  exact lp_Sp_owned dy g P r hP hL hc hb htb T.1 0 (by omega)
end
section
/-! ===== the rule: signs are worked out ===== -/
def jn_ (s a b : Int32) : Int32 := if s = -7 then (if a = 0 ∧ b = 0 then 0 else 1) else if s = -8 then (if a = 0 ∨ b = 0 then 0 else 1) else if s = -10 then (if b ≤ a then 0 else 1) else if s = -11 then (if a = b then 1 else 0) else if s = -12 then a + b else if s = -13 then a - b else a * b
theorem ct_Sp_joined (h : mm_Hp) (s a b : Int32) : mm_Ct 1 M_Sp_joined [.int s, .int a, .int b] h 0 0 (fun v h' => v = some (.int (jn_ s a b)) ∧ h' = h) := by
  refine mm_start pl_Sp (Nat.le_of_ble_eq_true rfl) ?_
  refine mm_B ok_Sp_joined 0 1 (1, [some (.int s), some (.int a), some (.int b)], [.int s], h) [] rfl trivial ?_
  by_cases s7 : s = -7
  · refine mm_sw (tgt := 44) (mm_at ok_Sp_joined (i := 1) rfl).1 (by rw [s7]; exact Or.inr ⟨by decide, _, rfl, by decide⟩) ?_
    refine mm_I ok_Sp_joined 2 1 45 [some (.int s), some (.int a), some (.int b)] [.int a] h [] rfl trivial rfl rfl (fun c1 => ?_) (fun c1 => ?_)
    · refine mm_B ok_Sp_joined 6 2 (57, [some (.int s), some (.int a), some (.int b)], [.int 1], h) [] rfl trivial ?_
      exact mm_ri rfl (mm_at ok_Sp_joined (i := 9) rfl).1 ⟨Nat.le_refl _, Nat.le_refl _⟩ (⟨congrArg some (congrArg Value.int (by rw [jn_, if_pos s7]; simp [c1])), rfl⟩)
    · refine mm_I ok_Sp_joined 4 1 49 [some (.int s), some (.int a), some (.int b)] [.int b] h [] rfl trivial rfl rfl (fun c2 => ?_) (fun c2 => ?_)
      · refine mm_B ok_Sp_joined 8 1 (57, [some (.int s), some (.int a), some (.int b)], [.int 0], h) [] rfl trivial ?_
        exact mm_ri rfl (mm_at ok_Sp_joined (i := 9) rfl).1 ⟨Nat.le_refl _, Nat.le_refl _⟩ (⟨congrArg some (congrArg Value.int (by rw [jn_, if_pos s7]; simp [c1, c2])), rfl⟩)
      · refine mm_B ok_Sp_joined 6 2 (57, [some (.int s), some (.int a), some (.int b)], [.int 1], h) [] rfl trivial ?_
        exact mm_ri rfl (mm_at ok_Sp_joined (i := 9) rfl).1 ⟨Nat.le_refl _, Nat.le_refl _⟩ (⟨congrArg some (congrArg Value.int (by rw [jn_, if_pos s7]; simp [c1, c2])), rfl⟩)
  by_cases s8 : s = -8
  · refine mm_sw (tgt := 58) (mm_at ok_Sp_joined (i := 1) rfl).1 (by rw [s8]; exact Or.inr ⟨by decide, _, rfl, by decide⟩) ?_
    refine mm_I ok_Sp_joined 10 1 59 [some (.int s), some (.int a), some (.int b)] [.int a] h [] rfl trivial rfl rfl (fun c1 => ?_) (fun c1 => ?_)
    · refine mm_B ok_Sp_joined 16 1 (71, [some (.int s), some (.int a), some (.int b)], [.int 0], h) [] rfl trivial ?_
      exact mm_ri rfl (mm_at ok_Sp_joined (i := 17) rfl).1 ⟨Nat.le_refl _, Nat.le_refl _⟩ (⟨congrArg some (congrArg Value.int (by rw [jn_, if_neg s7, if_pos s8]; simp [c1])), rfl⟩)
    · refine mm_I ok_Sp_joined 12 1 63 [some (.int s), some (.int a), some (.int b)] [.int b] h [] rfl trivial rfl rfl (fun c2 => ?_) (fun c2 => ?_)
      · refine mm_B ok_Sp_joined 16 1 (71, [some (.int s), some (.int a), some (.int b)], [.int 0], h) [] rfl trivial ?_
        exact mm_ri rfl (mm_at ok_Sp_joined (i := 17) rfl).1 ⟨Nat.le_refl _, Nat.le_refl _⟩ (⟨congrArg some (congrArg Value.int (by rw [jn_, if_neg s7, if_pos s8]; simp [c1, c2])), rfl⟩)
      · refine mm_B ok_Sp_joined 14 2 (71, [some (.int s), some (.int a), some (.int b)], [.int 1], h) [] rfl trivial ?_
        exact mm_ri rfl (mm_at ok_Sp_joined (i := 17) rfl).1 ⟨Nat.le_refl _, Nat.le_refl _⟩ (⟨congrArg some (congrArg Value.int (by rw [jn_, if_neg s7, if_pos s8]; simp [c1, c2])), rfl⟩)
  by_cases s10 : s = -10
  · refine mm_sw (tgt := 72) (mm_at ok_Sp_joined (i := 1) rfl).1 (by rw [s10]; exact Or.inr ⟨by decide, _, rfl, by decide⟩) ?_
    refine mm_I ok_Sp_joined 18 2 74 [some (.int s), some (.int a), some (.int b)] [.int b, .int a] h [] rfl trivial rfl rfl (fun c1 => ?_) (fun c1 => ?_)
    · refine mm_B ok_Sp_joined 23 1 (82, [some (.int s), some (.int a), some (.int b)], [.int 0], h) [] rfl trivial ?_
      exact mm_ri rfl (mm_at ok_Sp_joined (i := 24) rfl).1 ⟨Nat.le_refl _, Nat.le_refl _⟩ (⟨congrArg some (congrArg Value.int (by rw [jn_, if_neg s7, if_neg s8, if_pos s10]; simp [c1])), rfl⟩)
    · refine mm_B ok_Sp_joined 21 2 (82, [some (.int s), some (.int a), some (.int b)], [.int 1], h) [] rfl trivial ?_
      exact mm_ri rfl (mm_at ok_Sp_joined (i := 24) rfl).1 ⟨Nat.le_refl _, Nat.le_refl _⟩ (⟨congrArg some (congrArg Value.int (by rw [jn_, if_neg s7, if_neg s8, if_pos s10]; simp [c1])), rfl⟩)
  by_cases s11 : s = -11
  · refine mm_sw (tgt := 83) (mm_at ok_Sp_joined (i := 1) rfl).1 (by rw [s11]; exact Or.inr ⟨by decide, _, rfl, by decide⟩) ?_
    refine mm_I ok_Sp_joined 25 2 85 [some (.int s), some (.int a), some (.int b)] [.int b, .int a] h [] rfl trivial rfl rfl (fun c1 => ?_) (fun c1 => ?_)
    · refine mm_B ok_Sp_joined 30 1 (93, [some (.int s), some (.int a), some (.int b)], [.int 0], h) [] rfl trivial ?_
      exact mm_ri rfl (mm_at ok_Sp_joined (i := 31) rfl).1 ⟨Nat.le_refl _, Nat.le_refl _⟩ (⟨congrArg some (congrArg Value.int (by rw [jn_, if_neg s7, if_neg s8, if_neg s10, if_pos s11]; simp [c1])), rfl⟩)
    · refine mm_B ok_Sp_joined 28 2 (93, [some (.int s), some (.int a), some (.int b)], [.int 1], h) [] rfl trivial ?_
      exact mm_ri rfl (mm_at ok_Sp_joined (i := 31) rfl).1 ⟨Nat.le_refl _, Nat.le_refl _⟩ (⟨congrArg some (congrArg Value.int (by rw [jn_, if_neg s7, if_neg s8, if_neg s10, if_pos s11]; simp [c1])), rfl⟩)
  by_cases s12 : s = -12
  · refine mm_sw (tgt := 94) (mm_at ok_Sp_joined (i := 1) rfl).1 (by rw [s12]; exact Or.inr ⟨by decide, _, rfl, by decide⟩) ?_
    refine mm_B ok_Sp_joined 32 3 (97, [some (.int s), some (.int a), some (.int b)], [.int (a + b)], h) [] rfl trivial ?_
    exact mm_ri rfl (mm_at ok_Sp_joined (i := 35) rfl).1 ⟨Nat.le_refl _, Nat.le_refl _⟩ (⟨congrArg some (congrArg Value.int (by rw [jn_, if_neg s7, if_neg s8, if_neg s10, if_neg s11, if_pos s12])), rfl⟩)
  by_cases s13 : s = -13
  · refine mm_sw (tgt := 98) (mm_at ok_Sp_joined (i := 1) rfl).1 (by rw [s13]; exact Or.inr ⟨by decide, _, rfl, by decide⟩) ?_
    refine mm_B ok_Sp_joined 36 3 (101, [some (.int s), some (.int a), some (.int b)], [.int (a - b)], h) [] rfl trivial ?_
    exact mm_ri rfl (mm_at ok_Sp_joined (i := 39) rfl).1 ⟨Nat.le_refl _, Nat.le_refl _⟩ (⟨congrArg some (congrArg Value.int (by rw [jn_, if_neg s7, if_neg s8, if_neg s10, if_neg s11, if_neg s12, if_pos s13])), rfl⟩)
  have hs : (s.toInt < -13 ∨ -7 < s.toInt) ∨ s.toInt = -9 := by
    have n7 : s.toInt ≠ -7 := fun e => s7 (Int32.toInt_inj.mp e)
    have n8 : s.toInt ≠ -8 := fun e => s8 (Int32.toInt_inj.mp e)
    have n10 : s.toInt ≠ -10 := fun e => s10 (Int32.toInt_inj.mp e)
    have n11 : s.toInt ≠ -11 := fun e => s11 (Int32.toInt_inj.mp e)
    have n12 : s.toInt ≠ -12 := fun e => s12 (Int32.toInt_inj.mp e)
    have n13 : s.toInt ≠ -13 := fun e => s13 (Int32.toInt_inj.mp e)
    omega
  refine mm_sw (tgt := 102) (mm_at ok_Sp_joined (i := 1) rfl).1 (by rcases hs with hs | hs; exact Or.inl ⟨hs, by decide⟩; rw [hs]; exact Or.inr ⟨by decide, _, rfl, by decide⟩) ?_
  refine mm_B ok_Sp_joined 40 3 (105, [some (.int s), some (.int a), some (.int b)], [.int (a * b)], h) [] rfl trivial ?_
  exact mm_ri rfl (mm_at ok_Sp_joined (i := 43) rfl).1 ⟨Nat.le_refl _, Nat.le_refl _⟩ (⟨congrArg some (congrArg Value.int (by rw [jn_, if_neg s7, if_neg s8, if_neg s10, if_neg s11, if_neg s12, if_neg s13])), rfl⟩)
theorem ct_Sp_stage (dy : List mm_Sh) (g : Nat → Nat → Int32) (r : (Nat → Nat → Int64) × Nat × (Nat → Int32)) (p x2 x3 x4 x5 : Int32) (hc : vp_in p 6) : mm_Ct 1 M_Sp_stage [.ref 1, .int p, .int x2, .int x3, .int x4, .int x5] (hp_SH ++ dy, g, r) 0 0 (fun v h' => v = none ∧ ∃ g', h' = (hp_SH ++ dy, g', r) ∧ fr_ f1_ g g' ∧ (g' 13 0 = x2 ∧ g' 13 1 = p ∧ g' 13 2 = x3 ∧ g' 13 3 = x4 ∧ g' 13 4 = g 8 p.toNatClampNeg ∧ g' 13 5 = x5)) := by
  refine mm_start pl_Sp (Nat.le_of_ble_eq_true rfl) ?_
  refine mm_B ok_Sp_stage 0 34 (52, [some (.ref 1), some (.int p), some (.int x2), some (.int x3), some (.int x4), some (.int x5)], [], (hp_SH ++ dy, mm_up (mm_up (mm_up (mm_up (mm_up (mm_up g 13 0 x2) 13 1 p) 13 2 x3) 13 3 x4) 13 4 (g 8 p.toNatClampNeg)) 13 5 x5, r)) [vp_in 0 6, vp_in 1 6, vp_in 2 6, vp_in 3 6, vp_in p 6, vp_in 4 6, vp_in 5 6] rfl (show (vp_in 0 6) ∧ (vp_in 1 6) ∧ (vp_in 2 6) ∧ (vp_in 3 6) ∧ (vp_in p 6) ∧ (vp_in 4 6) ∧ (vp_in 5 6) from ⟨(by first | exact mm_vi rfl | assumption | decide), (by first | exact mm_vi rfl | assumption | decide), (by first | exact mm_vi rfl | assumption | decide), (by first | exact mm_vi rfl | assumption | decide), (by first | exact mm_vi rfl | assumption | decide), (by first | exact mm_vi rfl | assumption | decide), (by first | exact mm_vi rfl | assumption | decide)⟩) ?_
  exact mm_r0 rfl (mm_at ok_Sp_stage (i := 34) rfl).1 ⟨Nat.le_refl _, Nat.le_refl _⟩ (⟨rfl, _, rfl, ((((((fr_.rf.up _ rfl).up _ rfl).up _ rfl).up _ rfl).up _ rfl).up _ rfl), rfl, rfl, rfl, rfl, rfl, rfl⟩)
end
section
/-! ===== a row of signs is worked out ===== -/
def wk_s (sc : Nat → Int32) (s : Int32) (q : Nat × (Nat → Int32)) : Nat × (Nat → Int32) :=
  if s < -6 then (if s = -9 ∧ 0 < q.1 then (q.1, upd q.2 (q.1 - 1) (if q.2 (q.1 - 1) = 0 then 1 else 0)) else if s = -15 ∧ 0 < q.1 then (q.1, upd q.2 (q.1 - 1) (-(q.2 (q.1 - 1)))) else if 1 < q.1 then (q.1 - 1, upd q.2 (q.1 - 2) (jn_ s (q.2 (q.1 - 2)) (q.2 (q.1 - 1)))) else q)
  else (q.1 + 1, upd q.2 q.1 (if s < 0 then sc (-1 - s).toNatClampNeg else s))
def wk_r (sc : Nat → Int32) : List Int32 → Nat × (Nat → Int32) → Nat × (Nat → Int32)
  | [], q => q
  | s :: c, q => wk_r sc c (wk_s sc s q)
def wk_v (q : Nat × (Nat → Int32)) : Int32 := if 0 < q.1 then q.2 (q.1 - 1) else 0
theorem wk_vi {s : Int32} (h1 : ¬ s < -6) (h2 : s < 0) : vp_in (-1 - s) 6 := by
  rw [vp_in_iff]
  have a := Int32.lt_iff_toInt_lt.mp h2
  have b : ¬ s.toInt < -6 := fun q => h1 (Int32.lt_iff_toInt_lt.mpr q)
  have c : (0 : Int32).toInt = 0 := rfl
  have e : (-1 - s).toInt = -1 - s.toInt := by
    rw [Int32.toInt_sub]
    have : (-1 : Int32).toInt = -1 := rfl
    rw [this, Int.bmod_eq_of_le] <;> omega
  rw [e]
  omega
theorem mm_vs_d {n q : Nat} {lv : mm_L} {st : List Value} (a : Value) (hq : q < n) (h : mm_vs n lv st) (ha : ∀ k, a = .ref k → k < n) : mm_vs n (some a :: some (.ref q) :: lv) st :=
  ⟨fun k hk => by
    rcases List.mem_cons.mp hk with e | e
    · cases e; exact ha k rfl
    · rcases List.mem_cons.mp e with e | e
      · cases e; exact hq
      · exact h.1 k e, h.2⟩
theorem wk_go (g P : Nat → Nat → Int32) (r : (Nat → Nat → Int64) × Nat × (Nat → Int32)) (dy : List mm_Sh) {ca : Nat} {cl : List Int32} {sc f0 : Nat → Int32} (hsh : (hp_SH ++ dy)[ca]? = some (.inl (0, cl.length))) (hcl : cl.length ≤ 155) (hns : ∀ j, nr_s ca j = false) (hct : ∀ i, i < cl.length → P ca i = cl.getD i 0) (hP0 : nr_ g = P) : ∀ (c2 : List Int32) (k top : Nat) (g1 : Nat → Nat → Int32), cl.drop k = c2 → k + c2.length = cl.length → top ≤ k → fr_ f1_ g g1 → g1 13 = sc → wk_r sc c2 (top, g1 14) = wk_r sc cl (0, f0) → mm_W 2 M_Sp_worked 0 0 (fun v h' => v = some (.int (wk_v (wk_r sc cl (0, f0)))) ∧ ∃ g', h' = (hp_SH ++ dy, g', r) ∧ fr_ f1_ g g') 0 0 (4, [some (.ref 1), some (.ref ca), some (.int (nI top)), some (.int (nI k)), none], [], (hp_SH ++ dy, g1, r)) := by
  have hlt : ca < (hp_SH ++ dy).length := (List.getElem?_eq_some_iff.mp hsh).1
  intro c2
  induction c2 with
  | nil =>
    intro k top g1 hdr hk htop hF hsc hE
    have hk : k = cl.length := by simpa using hk
    have ht155 : top ≤ 155 := by omega
    refine mm_B ok_Sp_worked 4 2 (6, [some (.ref 1), some (.ref ca), some (.int (nI top)), some (.int (nI k)), none], [.ref ca, .int (nI k)], (hp_SH ++ dy, g1, r)) [] rfl trivial ?_
    refine mm_ialn (by decide) hsh (mm_at ok_Sp_worked (i := 6) rfl).1 ?_
    refine mm_I ok_Sp_worked 7 0 7 [some (.ref 1), some (.ref ca), some (.int (nI top)), some (.int (nI k)), none] [.int (nI cl.length), .int (nI k)] (hp_SH ++ dy, g1, r) [] rfl trivial rfl rfl (fun _ => ?_) (fun q => False.elim (q (nI_le (by omega) (by omega))))
    have hv : wk_v (wk_r sc cl (0, f0)) = wk_v (top, g1 14) := by rw [← hE]; rfl
    refine mm_I ok_Sp_worked 101 1 173 [some (.ref 1), some (.ref ca), some (.int (nI top)), some (.int (nI k)), none] [.int (nI top)] (hp_SH ++ dy, g1, r) [] rfl trivial rfl rfl (fun ht => ?_) (fun ht => ?_)
    · have ht : top = 0 := by
        rcases Nat.eq_zero_or_pos top with h | h
        · exact h
        · exact absurd ht (nI_nle h (by omega))
      refine mm_B ok_Sp_worked 110 1 (188, [some (.ref 1), some (.ref ca), some (.int (nI top)), some (.int (nI k)), none], [.int 0], (hp_SH ++ dy, g1, r)) [] rfl trivial ?_
      exact mm_ri rfl (mm_at ok_Sp_worked (i := 111) rfl).1 ⟨Nat.le_refl _, Nat.le_refl _⟩ (⟨by rw [hv, wk_v, if_neg (by show ¬ 0 < top; omega)], g1, rfl, hF⟩)
    · have ht : 0 < top := by
        rcases Nat.eq_zero_or_pos top with h | h
        · rw [h] at ht; exact absurd (by decide) ht
        · exact h
      obtain ⟨u, rfl⟩ : ∃ u, top = u + 1 := ⟨top - 1, by omega⟩
      refine mm_B ok_Sp_worked 103 7 (188, [some (.ref 1), some (.ref ca), some (.int (nI (u + 1))), some (.int (nI k)), none], [.int (g1 14 (((nI (u + 1)) - 1).toNatClampNeg))], (hp_SH ++ dy, g1, r)) [vp_in ((nI (u + 1)) - 1) 160] rfl (show vp_in ((nI (u + 1)) - 1) 160 from (by rw [nI_pred]; exact nI_vi (by omega) (by decide))) ?_
      exact mm_ri rfl (mm_at ok_Sp_worked (i := 111) rfl).1 ⟨Nat.le_refl _, Nat.le_refl _⟩ (⟨by rw [hv, wk_v, if_pos (by show 0 < u + 1; omega), nI_pred, nI_clamp (by omega)]; rfl, g1, rfl, hF⟩)
  | cons s c2 ih =>
    intro k top g1 hdr hk htop hF hsc hE
    have hP := hF.nr f1_nr hP0
    have hkl : k < cl.length := by simp at hk; omega
    have hs : cl.getD k 0 = s ∧ cl.drop (k + 1) = c2 := by
      have h1 := List.drop_eq_getElem_cons hkl
      rw [hdr] at h1
      injection h1 with h2 h3
      exact ⟨by rw [List.getD_eq_getElem?_getD, List.getElem?_eq_getElem hkl]; exact h2.symm, h3.symm⟩
    have eS : g1 ca (nI k).toNatClampNeg = s := by rw [nI_clamp (by omega), nr_at hP ca k (hns k), hct k hkl]; exact hs.1
    have hE : wk_r sc c2 (wk_s sc s (top, g1 14)) = wk_r sc cl (0, f0) := hE
    have hk2 : k + 1 + c2.length = cl.length := by simp at hk; omega
    have hvt : vp_in (nI top) 160 := nI_vi (by omega) (by decide)
    refine mm_B ok_Sp_worked 4 2 (6, [some (.ref 1), some (.ref ca), some (.int (nI top)), some (.int (nI k)), none], [.ref ca, .int (nI k)], (hp_SH ++ dy, g1, r)) [] rfl trivial ?_
    refine mm_ialn (by decide) hsh (mm_at ok_Sp_worked (i := 6) rfl).1 ?_
    refine mm_I ok_Sp_worked 7 0 7 [some (.ref 1), some (.ref ca), some (.int (nI top)), some (.int (nI k)), none] [.int (nI cl.length), .int (nI k)] (hp_SH ++ dy, g1, r) [] rfl trivial rfl rfl (fun q => False.elim (nI_ge hkl (by omega) q)) (fun _ => ?_)
    refine mm_I ok_Sp_worked 8 4 16 [some (.ref 1), some (.ref ca), some (.int (nI top)), some (.int (nI k)), none] [.int (nI 160), .int (nI top)] (hp_SH ++ dy, g1, r) [] rfl trivial rfl rfl (fun q => False.elim (nI_ge (show top < 160 by omega) (by omega) q)) (fun _ => ?_)
    refine mm_B ok_Sp_worked 13 2 (21, [some (.ref 1), some (.ref ca), some (.int (nI top)), some (.int (nI k)), none], [.int (nI k), .ref ca], (hp_SH ++ dy, g1, r)) [] rfl trivial ?_
    refine mm_iald hsh (nI_vi hkl (by omega)) (mm_at ok_Sp_worked (i := 15) rfl).1 ?_
    refine mm_B ok_Sp_worked 16 3 (28, [some (.ref 1), some (.ref ca), some (.int (nI top)), some (.int (nI k)), some (.int (g1 ca (nI k).toNatClampNeg))], [.int (-6), .int (g1 ca (nI k).toNatClampNeg)], (hp_SH ++ dy, g1, r)) [] rfl trivial ?_
    rw [eS]
    by_cases h6 : s < -6
    · refine mm_I ok_Sp_worked 19 0 28 [some (.ref 1), some (.ref ca), some (.int (nI top)), some (.int (nI k)), some (.int s)] [.int (-6), .int s] (hp_SH ++ dy, g1, r) [] rfl trivial rfl rfl (fun _ => ?_) (fun q => False.elim (q h6))
      have e1 : wk_s sc s (top, g1 14) = (if s = -9 ∧ 0 < top then (top, upd (g1 14) (top - 1) (if g1 14 (top - 1) = 0 then 1 else 0)) else if s = -15 ∧ 0 < top then (top, upd (g1 14) (top - 1) (-(g1 14 (top - 1)))) else if 1 < top then (top - 1, upd (g1 14) (top - 2) (jn_ s (g1 14 (top - 2)) (g1 14 (top - 1)))) else (top, g1 14)) := by rw [wk_s, if_pos h6]
      rw [e1] at hE
      by_cases h9 : s = -9 ∧ 0 < top
      · rw [if_pos h9] at hE
        obtain ⟨u, rfl⟩ : ∃ u, top = u + 1 := ⟨top - 1, by omega⟩
        refine mm_I ok_Sp_worked 36 2 66 [some (.ref 1), some (.ref ca), some (.int (nI (u + 1))), some (.int (nI k)), some (.int s)] [.int (-9), .int s] (hp_SH ++ dy, g1, r) [] rfl trivial rfl rfl (fun q => False.elim (q h9.1)) (fun _ => ?_)
        refine mm_I ok_Sp_worked 39 1 70 [some (.ref 1), some (.ref ca), some (.int (nI (u + 1))), some (.int (nI k)), some (.int s)] [.int (nI (u + 1))] (hp_SH ++ dy, g1, r) [] rfl trivial rfl rfl (fun q => False.elim (absurd q (nI_nle (by omega) (by omega)))) (fun _ => ?_)
        refine mm_B ok_Sp_worked 41 11 (88, [some (.ref 1), some (.ref ca), some (.int (nI (u + 1))), some (.int (nI k)), some (.int s)], [.int (g1 14 (((nI (u + 1)) - 1).toNatClampNeg)), .int ((nI (u + 1)) - 1), .ref 14], (hp_SH ++ dy, g1, r)) [vp_in ((nI (u + 1)) - 1) 160] rfl (show vp_in ((nI (u + 1)) - 1) 160 from (by rw [nI_pred]; exact nI_vi (by omega) (by decide))) ?_
        rw [nI_pred, nI_clamp (show u < 2 ^ 31 by omega)]
        refine mm_I ok_Sp_worked 52 0 88 [some (.ref 1), some (.ref ca), some (.int (nI (u + 1))), some (.int (nI k)), some (.int s)] [.int (g1 14 u), .int (nI u), .ref 14] (hp_SH ++ dy, g1, r) [] rfl trivial rfl rfl (fun hz => ?_) (fun hz => ?_)
        · refine mm_B ok_Sp_worked 55 3 (166, [some (.ref 1), some (.ref ca), some (.int (nI (u + 1))), some (.int (nI k)), some (.int s)], [], (hp_SH ++ dy, mm_up g1 14 ((nI u).toNatClampNeg) 0, r)) [vp_in (nI u) 160] rfl (show vp_in (nI u) 160 from (nI_vi (by omega) (by decide))) ?_
          rw [nI_clamp (show u < 2 ^ 31 by omega)]
          refine mm_B ok_Sp_worked 99 2 (4, [some (.ref 1), some (.ref ca), some (.int (nI (u + 1))), some (.int ((nI k) + 1)), some (.int s)], [], (hp_SH ++ dy, mm_up g1 14 u 0, r)) [] rfl trivial ?_
          rw [nI_1]
          refine mm_fg [4] ?_
          refine ih (k + 1) (u + 1) _ hs.2 hk2 (by omega) (hF.up _ rfl) (by rw [mm_up_ne (by decide)]; exact hsc) ?_
          rw [mm_up_eq]
          rw [show u + 1 - 1 = u by omega, if_neg hz] at hE
          exact hE
        · refine mm_B ok_Sp_worked 53 2 (96, [some (.ref 1), some (.ref ca), some (.int (nI (u + 1))), some (.int (nI k)), some (.int s)], [.int 1, .int (nI u), .ref 14], (hp_SH ++ dy, g1, r)) [] rfl trivial ?_
          refine mm_B ok_Sp_worked 56 2 (166, [some (.ref 1), some (.ref ca), some (.int (nI (u + 1))), some (.int (nI k)), some (.int s)], [], (hp_SH ++ dy, mm_up g1 14 ((nI u).toNatClampNeg) 1, r)) [vp_in (nI u) 160] rfl (show vp_in (nI u) 160 from (nI_vi (by omega) (by decide))) ?_
          rw [nI_clamp (show u < 2 ^ 31 by omega)]
          refine mm_B ok_Sp_worked 99 2 (4, [some (.ref 1), some (.ref ca), some (.int (nI (u + 1))), some (.int ((nI k) + 1)), some (.int s)], [], (hp_SH ++ dy, mm_up g1 14 u 1, r)) [] rfl trivial ?_
          rw [nI_1]
          refine mm_fg [4] ?_
          refine ih (k + 1) (u + 1) _ hs.2 hk2 (by omega) (hF.up _ rfl) (by rw [mm_up_ne (by decide)]; exact hsc) ?_
          rw [mm_up_eq]
          rw [show u + 1 - 1 = u by omega, if_pos hz] at hE
          exact hE
      · rw [if_neg h9] at hE
        have key : mm_W 2 M_Sp_worked 0 0 (fun v h' => v = some (.int (wk_v (wk_r sc cl (0, f0)))) ∧ ∃ g', h' = (hp_SH ++ dy, g', r) ∧ fr_ f1_ g g') 0 0 (100, [some (.ref 1), some (.ref ca), some (.int (nI top)), some (.int (nI k)), some (.int s)], [], (hp_SH ++ dy, g1, r)) := by
          by_cases h15 : s = -15 ∧ 0 < top
          · rw [if_pos h15] at hE
            obtain ⟨u, rfl⟩ : ∃ u, top = u + 1 := ⟨top - 1, by omega⟩
            refine mm_I ok_Sp_worked 58 2 104 [some (.ref 1), some (.ref ca), some (.int (nI (u + 1))), some (.int (nI k)), some (.int s)] [.int (-15), .int s] (hp_SH ++ dy, g1, r) [] rfl trivial rfl rfl (fun q => False.elim (q h15.1)) (fun _ => ?_)
            refine mm_I ok_Sp_worked 61 1 108 [some (.ref 1), some (.ref ca), some (.int (nI (u + 1))), some (.int (nI k)), some (.int s)] [.int (nI (u + 1))] (hp_SH ++ dy, g1, r) [] rfl trivial rfl rfl (fun q => False.elim (absurd q (nI_nle (by omega) (by omega)))) (fun _ => ?_)
            refine mm_B ok_Sp_worked 63 14 (166, [some (.ref 1), some (.ref ca), some (.int (nI (u + 1))), some (.int (nI k)), some (.int s)], [], (hp_SH ++ dy, mm_up g1 14 (((nI (u + 1)) - 1).toNatClampNeg) (-(g1 14 (((nI (u + 1)) - 1).toNatClampNeg))), r)) [vp_in ((nI (u + 1)) - 1) 160, vp_in ((nI (u + 1)) - 1) 160] rfl (show (vp_in ((nI (u + 1)) - 1) 160) ∧ (vp_in ((nI (u + 1)) - 1) 160) from ⟨(by rw [nI_pred]; exact nI_vi (by omega) (by decide)), (by rw [nI_pred]; exact nI_vi (by omega) (by decide))⟩) ?_
            rw [nI_pred, nI_clamp (show u < 2 ^ 31 by omega)]
            refine mm_B ok_Sp_worked 99 2 (4, [some (.ref 1), some (.ref ca), some (.int (nI (u + 1))), some (.int ((nI k) + 1)), some (.int s)], [], (hp_SH ++ dy, mm_up g1 14 u (-(g1 14 (u))), r)) [] rfl trivial ?_
            rw [nI_1]
            refine mm_fg [4] ?_
            refine ih (k + 1) (u + 1) _ hs.2 hk2 (by omega) (hF.up _ rfl) (by rw [mm_up_ne (by decide)]; exact hsc) ?_
            rw [mm_up_eq]
            exact hE
          · rw [if_neg h15] at hE
            have key2 : mm_W 2 M_Sp_worked 0 0 (fun v h' => v = some (.int (wk_v (wk_r sc cl (0, f0)))) ∧ ∃ g', h' = (hp_SH ++ dy, g', r) ∧ fr_ f1_ g g') 0 0 (131, [some (.ref 1), some (.ref ca), some (.int (nI top)), some (.int (nI k)), some (.int s)], [], (hp_SH ++ dy, g1, r)) := by
              by_cases h1 : 1 < top
              · rw [if_pos h1] at hE
                obtain ⟨u, rfl⟩ : ∃ u, top = u + 2 := ⟨top - 2, by omega⟩
                refine mm_I ok_Sp_worked 77 2 133 [some (.ref 1), some (.ref ca), some (.int (nI (u + 2))), some (.int (nI k)), some (.int s)] [.int 1, .int (nI (u + 2))] (hp_SH ++ dy, g1, r) [] rfl trivial rfl rfl (fun q => False.elim (nI_ge (show 1 < u + 2 by omega) (by omega) q)) (fun _ => ?_)
                refine mm_B ok_Sp_worked 80 1 (139, [some (.ref 1), some (.ref ca), some (.int ((nI (u + 2)) + (-1))), some (.int (nI k)), some (.int s)], [], (hp_SH ++ dy, g1, r)) [] rfl trivial ?_
                rw [pk_m1]
                refine mm_B ok_Sp_worked 81 16 (162, [some (.ref 1), some (.ref ca), some (.int (nI (u + 1))), some (.int (nI k)), some (.int s)], [.int (g1 14 ((nI (u + 1)).toNatClampNeg)), .int (g1 14 (((nI (u + 1)) - 1).toNatClampNeg)), .int s, .int ((nI (u + 1)) - 1), .ref 14], (hp_SH ++ dy, g1, r)) [vp_in ((nI (u + 1)) - 1) 160, vp_in (nI (u + 1)) 160] rfl (show (vp_in ((nI (u + 1)) - 1) 160) ∧ (vp_in (nI (u + 1)) 160) from ⟨(by rw [nI_pred]; exact nI_vi (by omega) (by decide)), (nI_vi (by omega) (by decide))⟩) ?_
                rw [nI_pred, nI_clamp (show u < 2 ^ 31 by omega), nI_clamp (show u + 1 < 2 ^ 31 by omega)]
                refine mm_cS (as := [.int s, .int (g1 14 (u)), .int (g1 14 ((u + 1)))]) (st := [.int (nI u), .ref 14]) cw_Sp_joined lk_Sp_167 sx_Sp_joined (mm_at ok_Sp_worked (i := 97) rfl).1 (ct_Sp_joined (hp_SH ++ dy, g1, r) s (g1 14 u) (g1 14 (u + 1))) (by decide) ⟨by omega, by omega⟩ (Nat.le_of_ble_eq_true rfl) (mm_vs_d _ hlt (mm_vs_b (b := 77) rfl (hp_len dy)) (fun k e => by cases e; exact Nat.lt_of_lt_of_le (by decide) (hp_len dy))) (fun v h' hqq => ?_)
                obtain ⟨rfl, hqe⟩ := hqq; rw [hqe]
                refine mm_B ok_Sp_worked 98 1 (166, [some (.ref 1), some (.ref ca), some (.int (nI (u + 1))), some (.int (nI k)), some (.int s)], [], (hp_SH ++ dy, mm_up g1 14 ((nI u).toNatClampNeg) (jn_ s (g1 14 u) (g1 14 (u + 1))), r)) [vp_in (nI u) 160] rfl (show vp_in (nI u) 160 from (nI_vi (by omega) (by decide))) ?_
                rw [nI_clamp (show u < 2 ^ 31 by omega)]
                refine mm_B ok_Sp_worked 99 2 (4, [some (.ref 1), some (.ref ca), some (.int (nI (u + 1))), some (.int ((nI k) + 1)), some (.int s)], [], (hp_SH ++ dy, mm_up g1 14 u (jn_ s (g1 14 u) (g1 14 (u + 1))), r)) [] rfl trivial ?_
                rw [nI_1]
                refine mm_fg [4] ?_
                refine ih (k + 1) (u + 1) _ hs.2 hk2 (by omega) (hF.up _ rfl) (by rw [mm_up_ne (by decide)]; exact hsc) ?_
                rw [mm_up_eq]
                exact hE
              · rw [if_neg h1] at hE
                refine mm_I ok_Sp_worked 77 2 133 [some (.ref 1), some (.ref ca), some (.int (nI top)), some (.int (nI k)), some (.int s)] [.int 1, .int (nI top)] (hp_SH ++ dy, g1, r) [] rfl trivial rfl rfl (fun _ => ?_) (fun q => False.elim (q (show nI top ≤ nI 1 from nI_le (by omega) (by omega))))
                refine mm_B ok_Sp_worked 99 2 (4, [some (.ref 1), some (.ref ca), some (.int (nI top)), some (.int ((nI k) + 1)), some (.int s)], [], (hp_SH ++ dy, g1, r)) [] rfl trivial ?_
                rw [nI_1]
                refine mm_fg [4] ?_
                exact ih (k + 1) top _ hs.2 hk2 (by omega) hF hsc hE
            refine mm_I ok_Sp_worked 58 2 104 [some (.ref 1), some (.ref ca), some (.int (nI top)), some (.int (nI k)), some (.int s)] [.int (-15), .int s] (hp_SH ++ dy, g1, r) [] rfl trivial rfl rfl (fun h15a => ?_) (fun h15a => ?_)
            · exact key2
            · refine mm_I ok_Sp_worked 61 1 108 [some (.ref 1), some (.ref ca), some (.int (nI top)), some (.int (nI k)), some (.int s)] [.int (nI top)] (hp_SH ++ dy, g1, r) [] rfl trivial rfl rfl (fun _ => ?_) (fun q => False.elim ((h15 ⟨h15a, Nat.pos_of_ne_zero (fun e => q (by rw [e]; decide))⟩)))
              exact key2
        refine mm_I ok_Sp_worked 36 2 66 [some (.ref 1), some (.ref ca), some (.int (nI top)), some (.int (nI k)), some (.int s)] [.int (-9), .int s] (hp_SH ++ dy, g1, r) [] rfl trivial rfl rfl (fun h9a => ?_) (fun h9a => ?_)
        · exact key
        · refine mm_I ok_Sp_worked 39 1 70 [some (.ref 1), some (.ref ca), some (.int (nI top)), some (.int (nI k)), some (.int s)] [.int (nI top)] (hp_SH ++ dy, g1, r) [] rfl trivial rfl rfl (fun _ => ?_) (fun q => False.elim ((h9 ⟨h9a, Nat.pos_of_ne_zero (fun e => q (by rw [e]; decide))⟩)))
          exact key
    · have e1 : wk_s sc s (top, g1 14) = (top + 1, upd (g1 14) top (if s < 0 then sc (-1 - s).toNatClampNeg else s)) := by rw [wk_s, if_neg h6]
      rw [e1] at hE
      refine mm_I ok_Sp_worked 19 0 28 [some (.ref 1), some (.ref ca), some (.int (nI top)), some (.int (nI k)), some (.int s)] [.int (-6), .int s] (hp_SH ++ dy, g1, r) [] rfl trivial rfl rfl (fun q => False.elim (h6 q)) (fun _ => ?_)
      refine mm_I ok_Sp_worked 20 4 38 [some (.ref 1), some (.ref ca), some (.int (nI top)), some (.int (nI k)), some (.int s)] [.int s, .int (nI top), .ref 14] (hp_SH ++ dy, g1, r) [] rfl trivial rfl rfl (fun h0 => ?_) (fun h0 => ?_)
      · rw [if_pos h0] at hE
        refine mm_B ok_Sp_worked 27 9 (166, [some (.ref 1), some (.ref ca), some (.int ((nI top) + 1)), some (.int (nI k)), some (.int s)], [], (hp_SH ++ dy, mm_up g1 14 ((nI top).toNatClampNeg) (g1 13 (((-1) - s).toNatClampNeg)), r)) [vp_in ((-1) - s) 6, vp_in (nI top) 160] rfl (show (vp_in ((-1) - s) 6) ∧ (vp_in (nI top) 160) from ⟨(wk_vi h6 h0), hvt⟩) ?_
        rw [nI_clamp (show top < 2 ^ 31 by omega), nI_1]
        refine mm_B ok_Sp_worked 99 2 (4, [some (.ref 1), some (.ref ca), some (.int (nI (top + 1))), some (.int ((nI k) + 1)), some (.int s)], [], (hp_SH ++ dy, mm_up g1 14 top (g1 13 (((-1) - s).toNatClampNeg)), r)) [] rfl trivial ?_
        rw [nI_1]
        refine mm_fg [4] ?_
        refine ih (k + 1) (top + 1) _ hs.2 hk2 (by omega) (hF.up _ rfl) (by rw [mm_up_ne (by decide)]; exact hsc) ?_
        rw [mm_up_eq]
        rw [← hsc] at hE
        rw [← hsc]
        exact hE
      · rw [if_neg h0] at hE
        refine mm_B ok_Sp_worked 25 2 (55, [some (.ref 1), some (.ref ca), some (.int (nI top)), some (.int (nI k)), some (.int s)], [.int s, .int (nI top), .ref 14], (hp_SH ++ dy, g1, r)) [] rfl trivial ?_
        refine mm_B ok_Sp_worked 33 3 (166, [some (.ref 1), some (.ref ca), some (.int ((nI top) + 1)), some (.int (nI k)), some (.int s)], [], (hp_SH ++ dy, mm_up g1 14 ((nI top).toNatClampNeg) s, r)) [vp_in (nI top) 160] rfl (show vp_in (nI top) 160 from hvt) ?_
        rw [nI_clamp (show top < 2 ^ 31 by omega), nI_1]
        refine mm_B ok_Sp_worked 99 2 (4, [some (.ref 1), some (.ref ca), some (.int (nI (top + 1))), some (.int ((nI k) + 1)), some (.int s)], [], (hp_SH ++ dy, mm_up g1 14 top s, r)) [] rfl trivial ?_
        rw [nI_1]
        refine mm_fg [4] ?_
        refine ih (k + 1) (top + 1) _ hs.2 hk2 (by omega) (hF.up _ rfl) (by rw [mm_up_ne (by decide)]; exact hsc) ?_
        rw [mm_up_eq]
        exact hE
theorem ct_Sp_worked (g P : Nat → Nat → Int32) (r : (Nat → Nat → Int64) × Nat × (Nat → Int32)) (dy : List mm_Sh) {ca : Nat} {cl : List Int32} {sc f0 : Nat → Int32} (hsh : (hp_SH ++ dy)[ca]? = some (.inl (0, cl.length))) (hcl : cl.length ≤ 155) (hns : ∀ j, nr_s ca j = false) (hct : ∀ i, i < cl.length → P ca i = cl.getD i 0) (hP0 : nr_ g = P) (h13 : g 13 = sc) (h14 : g 14 = f0) : mm_Ct 2 M_Sp_worked [.ref 1, .ref ca] (hp_SH ++ dy, g, r) 0 0 (fun v h' => v = some (.int (wk_v (wk_r sc cl (0, f0)))) ∧ ∃ g', h' = (hp_SH ++ dy, g', r) ∧ fr_ f1_ g g') := by
  refine mm_start pl_Sp (Nat.le_of_ble_eq_true rfl) ?_
  refine mm_B ok_Sp_worked 0 4 (4, [some (.ref 1), some (.ref ca), some (.int 0), some (.int 0), none], [], (hp_SH ++ dy, g, r)) [] rfl trivial ?_
  exact wk_go g P r dy hsh hcl hns hct hP0 cl 0 0 g rfl (by omega) (Nat.le_refl _) fr_.rf h13 (by rw [h14])
end
section
/-! ===== the rule, as it is asked ===== -/
def sc_6 (b c l k a o : Int32) : Nat → Int32
  | 0 => b
  | 1 => c
  | 2 => l
  | 3 => k
  | 4 => a
  | _ => o
/-- what a row of signs says of a scene -/
def ev_ (cl : List Int32) (b c l k a o : Int32) : Int32 := wk_v (wk_r (sc_6 b c l k a o) cl (0, fun _ => 0))
theorem wk_ix {s : Int32} (h1 : ¬ s < -6) (h2 : s < 0) : (-1 - s).toNatClampNeg < 6 := Nat.not_le.mp (fun q => wk_vi h1 h2 (Or.inr q))
theorem wk_same {sc sc' : Nat → Int32} (hs : ∀ i, i < 6 → sc i = sc' i) : ∀ (cl : List Int32) (n : Nat) (f f' : Nat → Int32), (∀ i, i < n → f i = f' i) → (wk_r sc cl (n, f)).1 = (wk_r sc' cl (n, f')).1 ∧ ∀ i, i < (wk_r sc cl (n, f)).1 → (wk_r sc cl (n, f)).2 i = (wk_r sc' cl (n, f')).2 i := by
  intro cl
  induction cl with
  | nil => intro n f f' h; exact ⟨rfl, h⟩
  | cons s cl ih =>
    intro n f f' h
    show (wk_r sc cl (wk_s sc s (n, f))).1 = (wk_r sc' cl (wk_s sc' s (n, f'))).1 ∧ ∀ i, i < (wk_r sc cl (wk_s sc s (n, f))).1 → (wk_r sc cl (wk_s sc s (n, f))).2 i = (wk_r sc' cl (wk_s sc' s (n, f'))).2 i
    have up : ∀ (m j : Nat) (v v' : Int32), v = v' → (∀ i, i < m → i ≠ j → f i = f' i) → ∀ i, i < m → upd f j v i = upd f' j v' i := by
      intro m j v v' hv hf i hi
      by_cases e : i = j
      · simp [upd, e, hv]
      · simp [upd, e, hf i hi e]
    unfold wk_s
    by_cases h6 : s < -6
    · rw [if_pos h6, if_pos h6]
      by_cases h9 : s = -9 ∧ 0 < n
      · rw [if_pos h9, if_pos h9]
        exact ih _ _ _ (up n (n - 1) _ _ (by show (if f (n - 1) = 0 then (1 : Int32) else 0) = if f' (n - 1) = 0 then 1 else 0; rw [h (n - 1) (by omega)]) (fun i hi _ => h i hi))
      · rw [if_neg h9, if_neg h9]
        by_cases h15 : s = -15 ∧ 0 < n
        · rw [if_pos h15, if_pos h15]
          exact ih _ _ _ (up n (n - 1) _ _ (by show -(f (n - 1)) = -(f' (n - 1)); rw [h (n - 1) (by omega)]) (fun i hi _ => h i hi))
        · rw [if_neg h15, if_neg h15]
          by_cases h1 : 1 < n
          · rw [if_pos h1, if_pos h1]
            exact ih _ _ _ (up (n - 1) (n - 2) _ _ (by show jn_ s (f (n - 2)) (f (n - 1)) = jn_ s (f' (n - 2)) (f' (n - 1)); rw [h (n - 1) (by omega), h (n - 2) (by omega)]) (fun i hi _ => h i (by omega)))
          · rw [if_neg h1, if_neg h1]
            exact ih _ _ _ h
    · rw [if_neg h6, if_neg h6]
      refine ih _ _ _ (up (n + 1) n _ _ ?_ (fun i hi e => h i (by omega)))
      by_cases h0 : s < 0
      · rw [if_pos h0, if_pos h0]; exact hs _ (wk_ix h6 h0)
      · rw [if_neg h0, if_neg h0]
theorem ev_eq {sc f0 : Nat → Int32} (cl : List Int32) {b c l k a o : Int32} (h0 : sc 0 = b) (h1 : sc 1 = c) (h2 : sc 2 = l) (h3 : sc 3 = k) (h4 : sc 4 = a) (h5 : sc 5 = o) : wk_v (wk_r sc cl (0, f0)) = ev_ cl b c l k a o := by
  obtain ⟨e1, e2⟩ := wk_same (sc := sc) (sc' := sc_6 b c l k a o) (fun i hi => by
    match i, hi with
    | 0, _ => exact h0
    | 1, _ => exact h1
    | 2, _ => exact h2
    | 3, _ => exact h3
    | 4, _ => exact h4
    | 5, _ => exact h5) cl 0 f0 (fun _ => 0) (fun i hi => absurd hi (by omega))
  unfold ev_ wk_v
  rw [← e1]
  by_cases h : 0 < (wk_r sc cl (0, f0)).1
  · rw [if_pos h, if_pos h]; exact e2 _ (by omega)
  · rw [if_neg h, if_neg h]
/-- a cell that holds a row of signs -/
def rt_A (dy : List mm_Sh) (P : Nat → Nat → Int32) (a : Nat) (cl : List Int32) : Prop := (hp_SH ++ dy)[a]? = some (.inl (0, cl.length)) ∧ cl.length ≤ 155 ∧ (∀ j, nr_s a j = false) ∧ ∀ i, i < cl.length → P a i = cl.getD i 0
/-- a cell that is a text -/
def rt_T (dy : List mm_Sh) (P : Nat → Nat → Int32) (tc : Nat) (C : Nat → List Int32) : Prop := ∃ a0 a1 a2 : Nat, (hp_SH ++ dy)[tc]? = some (.inr (10, [a0 + 3, a1 + 3, a2 + 3])) ∧ rt_A dy P a0 (C 0) ∧ rt_A dy P a1 (C 1) ∧ rt_A dy P a2 (C 2)
/-- the rule in force is C's three rows -/
def rt_R (dy : List mm_Sh) (P : Nat → Nat → Int32) (C : Nat → List Int32) : Prop := ∃ ru tc : Nat, P 2 2 = nI ru ∧ ru < 6 ∧ P 11 ru = nI (tc + 1) ∧ tc + 1 < 2 ^ 31 ∧ rt_T dy P tc C
theorem ct_Sp_ruleText (dy : List mm_Sh) (g P : Nat → Nat → Int32) (r : (Nat → Nat → Int64) × Nat × (Nat → Int32)) (hP : nr_ g = P) {ru tc : Nat} (h22 : P 2 2 = nI ru) (hru : ru < 6) (h11 : P 11 ru = nI (tc + 1)) (htc : tc + 1 < 2 ^ 31) : mm_Ct 1 M_Sp_ruleText [.ref 1] (hp_SH ++ dy, g, r) 0 0 (fun v h' => v = some (.ref tc) ∧ h' = (hp_SH ++ dy, g, r)) := by
  have e22 : g 2 2 = nI ru := by rw [nr_at hP 2 2 rfl]; exact h22
  refine mm_start pl_Sp (Nat.le_of_ble_eq_true rfl) ?_
  refine mm_B ok_Sp_ruleText 0 5 (11, [some (.ref 1), none], [.int (g 2 2), .ref 11], (hp_SH ++ dy, g, r)) [] rfl trivial ?_
  rw [e22]
  refine mm_aald (t := 2) (n := 6) (v := .ref tc) (Or.inl rfl) rfl (nI_vi hru (by decide)) ?_ (mm_at ok_Sp_ruleText (i := 5) rfl).1 ?_
  · show mm_rf (g 11 (nI ru).toNatClampNeg) = _; rw [nI_clamp (by omega), nr_at hP 11 ru rfl, h11]; unfold mm_rf; rw [if_neg (nI_nle (by omega) htc), nI_clamp htc]; rfl
  refine mm_I ok_Sp_ruleText 6 2 14 [some (.ref 1), some (.ref tc)] [.ref tc] (hp_SH ++ dy, g, r) [] rfl trivial rfl rfl (fun _ => ?_) (fun q => q.elim)
  refine mm_B ok_Sp_ruleText 12 1 (25, [some (.ref 1), some (.ref tc)], [.ref tc], (hp_SH ++ dy, g, r)) [] rfl trivial ?_
  exact mm_ra rfl (Or.inl ⟨_, rfl⟩) rfl (mm_at ok_Sp_ruleText (i := 13) rfl).1 ⟨Nat.le_refl _, Nat.le_refl _⟩ (⟨rfl, rfl⟩)
/-- the three ways in which the rule is asked -/
def sp_H (C : Nat → List Int32) (ag : Nat → Nat) (c b l k o : Nat) : Bool := decide (ev_ (C 0) (nI b) (nI c) (nI l) (nI k) (nI (ag c)) (nI o) ≠ 0)
def sp_W (C : Nat → List Int32) (ag : Nat → Nat) (c l k o : Nat) : Int32 := ev_ (C 1) 5 (nI c) (nI l) (nI k) (nI (ag c)) (nI o)
def sp_R (C : Nat → List Int32) (ag : Nat → Nat) (c b : Nat) : Int32 := ev_ (C 2) (nI b) (nI c) 0 0 (nI (ag c)) 0
theorem ct_Sp_hears (dy : List mm_Sh) (g P : Nat → Nat → Int32) (r : (Nat → Nat → Int64) × Nat × (Nat → Int32)) (hP : nr_ g = P) {C : Nat → List Int32} (hR : rt_R dy P C) {ag : Nat → Nat} {c b l k o : Nat} (hc : c < 6) (hag : P 8 c = nI (ag c)) : mm_Ct 3 M_Sp_hears [.ref 1, .int (nI c), .int (nI b), .int (nI l), .int (nI k), .int (nI o)] (hp_SH ++ dy, g, r) 0 0 (fun v h' => v = some (.int (if sp_H C ag c b l k o = true then 1 else 0)) ∧ ∃ g', h' = (hp_SH ++ dy, g', r) ∧ fr_ f1_ g g') := by
  obtain ⟨ru, tc, h22, hru, h11, htc, a0, a1, a2, hsh, ⟨s0, l0, n0, c0⟩, -, -⟩ := hR
  refine mm_start pl_Sp (Nat.le_of_ble_eq_true rfl) ?_
  refine mm_B ok_Sp_hears 0 6 (8, [some (.ref 1), some (.int (nI c)), some (.int (nI b)), some (.int (nI l)), some (.int (nI k)), some (.int (nI o))], [.int (nI o), .int (nI k), .int (nI l), .int (nI b), .int (nI c), .ref 1], (hp_SH ++ dy, g, r)) [] rfl trivial ?_
  refine mm_cV (as := [.int (nI c), .int (nI b), .int (nI l), .int (nI k), .int (nI o)]) (st := []) (q := 1) cw_Sp_stage lk_Sp_84 in_Sp_stage sl_Sp_stage rfl rfl (mm_at ok_Sp_hears (i := 6) rfl).1 (ct_Sp_stage dy g r (nI c) (nI b) (nI l) (nI k) (nI o) (nI_vi hc (by decide))) (by decide) ⟨by omega, by omega⟩ (Nat.le_of_ble_eq_true rfl) (mm_vs_b (b := 77) rfl (hp_len dy)) (fun v h' hqq => ?_)
  obtain ⟨rfl, g1, hqe, hF1, q0, q1, q2, q3, q4, q5⟩ := hqq; rw [hqe]
  rw [nI_clamp (by omega), nr_at hP 8 c rfl, hag] at q4
  have hP1 := hF1.nr f1_nr hP
  refine mm_B ok_Sp_hears 7 2 (13, [some (.ref 1), some (.int (nI c)), some (.int (nI b)), some (.int (nI l)), some (.int (nI k)), some (.int (nI o))], [.ref 1, .ref 1], (hp_SH ++ dy, g1, r)) [] rfl trivial ?_
  refine mm_cV (as := []) (st := [.ref 1]) (q := 1) cw_Sp_ruleText lk_Sp_88 in_Sp_ruleText sl_Sp_ruleText rfl rfl (mm_at ok_Sp_hears (i := 9) rfl).1 (ct_Sp_ruleText dy g1 P r hP1 h22 hru h11 htc) (by decide) ⟨by omega, by omega⟩ (Nat.le_of_ble_eq_true rfl) (mm_vs_b (b := 77) rfl (hp_len dy)) (fun v h' hqq => ?_)
  obtain ⟨rfl, hqe⟩ := hqq; rw [hqe]
  refine mm_get (ci := 10) (y := 0) (mm_fm_lk (by decide +kernel)) hsh rfl (mm_at ok_Sp_hears (i := 10) rfl).1 ?_
  refine mm_cV (as := [.ref a0]) (st := []) (q := 1) cw_Sp_worked lk_Sp_95 in_Sp_worked sl_Sp_worked rfl rfl (mm_at ok_Sp_hears (i := 11) rfl).1 (ct_Sp_worked g1 P r dy s0 l0 n0 c0 hP1 rfl rfl) (by decide) ⟨by omega, by omega⟩ (Nat.le_of_ble_eq_true rfl) (mm_vs_b (b := 77) rfl (hp_len dy)) (fun v h' hqq => ?_)
  obtain ⟨rfl, g2, hqe, hF2⟩ := hqq; rw [hqe, ev_eq (C 0) q0 q1 q2 q3 q4 q5]
  refine mm_I ok_Sp_hears 12 0 22 [some (.ref 1), some (.int (nI c)), some (.int (nI b)), some (.int (nI l)), some (.int (nI k)), some (.int (nI o))] [.int (ev_ (C 0) (nI b) (nI c) (nI l) (nI k) (nI (ag c)) (nI o))] (hp_SH ++ dy, g2, r) [] rfl trivial rfl rfl (fun h0 => ?_) (fun h0 => ?_)
  · refine mm_B ok_Sp_hears 15 1 (30, [some (.ref 1), some (.int (nI c)), some (.int (nI b)), some (.int (nI l)), some (.int (nI k)), some (.int (nI o))], [.int 0], (hp_SH ++ dy, g2, r)) [] rfl trivial ?_
    exact mm_rz rfl (mm_at ok_Sp_hears (i := 16) rfl).1 ⟨Nat.le_refl _, Nat.le_refl _⟩ (Or.inl rfl) (⟨by rw [sp_H]; simp [h0], g2, rfl, hF1.tr hF2⟩)
  · refine mm_B ok_Sp_hears 13 2 (30, [some (.ref 1), some (.int (nI c)), some (.int (nI b)), some (.int (nI l)), some (.int (nI k)), some (.int (nI o))], [.int 1], (hp_SH ++ dy, g2, r)) [] rfl trivial ?_
    exact mm_rz rfl (mm_at ok_Sp_hears (i := 16) rfl).1 ⟨Nat.le_refl _, Nat.le_refl _⟩ (Or.inr rfl) (⟨by rw [sp_H]; simp [h0], g2, rfl, hF1.tr hF2⟩)
theorem sp_cl_i {x : Int32} : (if -99 < (if x < 99 then x else 99) then (if x < 99 then x else 99) else -99) = if x < -99 then -99 else if 99 < x then 99 else x := by
  simp only [Int32.lt_iff_toInt_lt, ← Int32.toInt_inj]
  have h1 : (-99 : Int32).toInt = -99 := rfl
  have h2 : (99 : Int32).toInt = 99 := rfl
  rw [h1, h2]
  repeat' split
  all_goals omega
end
section
/-! ===== Spring: what a lesson is worth, what a run costs, listening ===== -/
def cl_ (w : Int32) : Int32 := if -99 < (if w < 99 then w else 99) then (if w < 99 then w else 99) else -99
def sp_gn (v : Nat) (w : Int32) : Nat := ((v : Int) + max (-99) (min 99 w.toInt)).toNat
theorem cl_toInt (w : Int32) : (cl_ w).toInt = max (-99) (min 99 w.toInt) := by
  unfold cl_
  have h1 : (-99 : Int32).toInt = -99 := rfl
  have h2 : (99 : Int32).toInt = 99 := rfl
  simp only [Int32.lt_iff_toInt_lt, h1, h2]
  repeat' split
  all_goals simp only [h1, h2] at *
  all_goals omega
theorem nI_toI {v : Nat} (h : v < 2 ^ 31) : (nI v).toInt = (v : Int) := nI_toInt h
theorem gn_sum {v : Nat} {c : Int32} (hv : v ≤ 100) (h1 : -99 ≤ c.toInt) (h2 : c.toInt ≤ 99) : (nI v + c).toInt = (v : Int) + c.toInt := by
  rw [Int32.toInt_add, nI_toI (by omega), Int.bmod_eq_of_le] <;> omega
theorem gn_eq {v : Nat} (hv : v ≤ 100) (w : Int32) : (if 0 < nI v + cl_ w then nI v + cl_ w else 0) = nI (sp_gn v w) := by
  have hc := cl_toInt w
  have h1 : -99 ≤ (cl_ w).toInt := by omega
  have h2 : (cl_ w).toInt ≤ 99 := by omega
  have hs := gn_sum hv h1 h2
  have h0 : (0 : Int32).toInt = 0 := rfl
  rw [← Int32.toInt_inj, nI_toI (by unfold sp_gn; omega)]
  simp only [Int32.lt_iff_toInt_lt, hs, h0]
  unfold sp_gn
  split
  · rw [hs]; omega
  · rw [h0]; omega
theorem sp_vl_le : ∀ k n, n ≤ 9 → sp_vl k n ≤ 100 := by
  intro k n hn
  unfold sp_vl
  split <;> omega
theorem ct_Sp_gain (dy : List mm_Sh) (g P : Nat → Nat → Int32) (r : (Nat → Nat → Int64) × Nat × (Nat → Int32)) (hP : nr_ g = P) {C : Nat → List Int32} (hR : rt_R dy P C) {T : sp_T} {ag : Nat → Nat} {c l k o : Nat} (hL : rl_L T P) (hc : c < 6) (hag : P 8 c = nI (ag c)) (hl : l < T.1) : mm_Ct 4 M_Sp_gain [.ref 1, .int (nI c), .int (nI l), .int (nI k), .int (nI o)] (hp_SH ++ dy, g, r) 0 0 (fun v h' => v = some (.int (nI (sp_gn (sp_value T l) (sp_W C ag c l k o)))) ∧ ∃ g', h' = (hp_SH ++ dy, g', r) ∧ fr_ f1_ g g') := by
  have h4 := hL.2.1
  obtain ⟨-, h6, h4l, h9', -⟩ := hL.2.2.1 l hl
  have h9 : T.2.2.1 l < 10 := by omega
  obtain ⟨ru, tc, h22, hru, h11, htc, a0, a1, a2, hsh, -, ⟨s0, l0, n0, c0⟩, -⟩ := hR
  refine mm_start pl_Sp (Nat.le_of_ble_eq_true rfl) ?_
  refine mm_B ok_Sp_gain 0 6 (7, [some (.ref 1), some (.int (nI c)), some (.int (nI l)), some (.int (nI k)), some (.int (nI o)), none], [.int (nI o), .int (nI k), .int (nI l), .int 5, .int (nI c), .ref 1], (hp_SH ++ dy, g, r)) [] rfl trivial ?_
  refine mm_cV (as := [.int (nI c), .int 5, .int (nI l), .int (nI k), .int (nI o)]) (st := []) (q := 1) cw_Sp_stage lk_Sp_84 in_Sp_stage sl_Sp_stage rfl rfl (mm_at ok_Sp_gain (i := 6) rfl).1 (ct_Sp_stage dy g r (nI c) 5 (nI l) (nI k) (nI o) (nI_vi hc (by decide))) (by decide) ⟨by omega, by omega⟩ (Nat.le_of_ble_eq_true rfl) (mm_vs_b (b := 77) rfl (hp_len dy)) (fun v h' hqq => ?_)
  obtain ⟨rfl, g1, hqe, hF1, q0, q1, q2, q3, q4, q5⟩ := hqq; rw [hqe]
  rw [nI_clamp (by omega), nr_at hP 8 c rfl, hag] at q4
  have hP1 := hF1.nr f1_nr hP
  refine mm_B ok_Sp_gain 7 4 (16, [some (.ref 1), some (.int (nI c)), some (.int (nI l)), some (.int (nI k)), some (.int (nI o)), none], [.ref 1, .ref 1, .int 99, .int (-99)], (hp_SH ++ dy, g1, r)) [] rfl trivial ?_
  refine mm_cV (as := []) (st := [.ref 1, .int 99, .int (-99)]) (q := 1) cw_Sp_ruleText lk_Sp_88 in_Sp_ruleText sl_Sp_ruleText rfl rfl (mm_at ok_Sp_gain (i := 11) rfl).1 (ct_Sp_ruleText dy g1 P r hP1 h22 hru h11 htc) (by decide) ⟨by omega, by omega⟩ (Nat.le_of_ble_eq_true rfl) (mm_vs_b (b := 77) rfl (hp_len dy)) (fun v h' hqq => ?_)
  obtain ⟨rfl, hqe⟩ := hqq; rw [hqe]
  refine mm_get (ci := 10) (y := 1) (mm_fm_lk (by decide +kernel)) hsh rfl (mm_at ok_Sp_gain (i := 12) rfl).1 ?_
  refine mm_cV (as := [.ref a1]) (st := [.int 99, .int (-99)]) (q := 1) cw_Sp_worked lk_Sp_95 in_Sp_worked sl_Sp_worked rfl rfl (mm_at ok_Sp_gain (i := 13) rfl).1 (ct_Sp_worked g1 P r dy s0 l0 n0 c0 hP1 rfl rfl) (by decide) ⟨by omega, by omega⟩ (Nat.le_of_ble_eq_true rfl) (mm_vs_b (b := 77) rfl (hp_len dy)) (fun v h' hqq => ?_)
  obtain ⟨rfl, g2, hqe, hF2⟩ := hqq; rw [hqe, ev_eq (C 1) q0 q1 q2 q3 q4 q5]
  have hP2 := hF2.nr f1_nr hP1
  have e4 : g2 4 (nI l).toNatClampNeg = nI (T.2.2.1 l) := by rw [nI_clamp (by omega), nr_at hP2 4 l rfl]; exact h4l
  refine mm_min lk_Sp_102 (mm_at ok_Sp_gain (i := 14) rfl).1 (by decide) ⟨Nat.le_refl _, Nat.le_refl _⟩ (Nat.le_of_ble_eq_true rfl) ?_
  refine mm_max lk_Sp_107 (mm_at ok_Sp_gain (i := 15) rfl).1 (by decide) ⟨Nat.le_refl _, Nat.le_refl _⟩ (Nat.le_of_ble_eq_true rfl) ?_
  refine mm_B ok_Sp_gain 16 4 (36, [some (.ref 1), some (.int (nI c)), some (.int (nI l)), some (.int (nI k)), some (.int (nI o)), some (.int (cl_ (sp_W C ag c l k o)))], [.int (nI l), .ref 1, .int 0], (hp_SH ++ dy, g2, r)) [] rfl trivial ?_
  refine mm_cV (as := [.int (nI l)]) (st := [.int 0]) (q := 1) cw_Sp_kindOf lk_Sp_73 in_Sp_kindOf sl_Sp_kindOf rfl rfl (mm_at ok_Sp_gain (i := 20) rfl).1 (ct_Sp_kindOf dy g2 P r hP2 hL hl) (by decide) ⟨by omega, by omega⟩ (Nat.le_of_ble_eq_true rfl) (mm_vs_b (b := 77) rfl (hp_len dy)) (fun v h' hqq => ?_)
  obtain ⟨rfl, hqe⟩ := hqq; rw [hqe]
  refine mm_B ok_Sp_gain 21 5 (48, [some (.ref 1), some (.int (nI c)), some (.int (nI l)), some (.int (nI k)), some (.int (nI o)), some (.int (cl_ (sp_W C ag c l k o)))], [.int (g2 4 ((nI l).toNatClampNeg)), .ref (19 + T.2.1 l), .int 0], (hp_SH ++ dy, g2, r)) [vp_in (nI l) 4] rfl (show vp_in (nI l) 4 from (nI_vi (by omega) (by decide))) ?_
  rw [e4]
  refine vc_value (k := T.2.1 l) h6 lk_Sp_110 (mm_at ok_Sp_gain (i := 26) rfl).1 (by decide) ⟨Nat.le_refl _, Nat.le_refl _⟩ (Nat.le_of_ble_eq_true rfl) (mm_vs_b (b := 77) rfl (hp_len dy)) ?_
  rw [vn_value _ h6 _ h9]
  refine mm_B ok_Sp_gain 27 2 (54, [some (.ref 1), some (.int (nI c)), some (.int (nI l)), some (.int (nI k)), some (.int (nI o)), some (.int (cl_ (sp_W C ag c l k o)))], [.int ((nI (sp_vl (T.2.1 l) (T.2.2.1 l))) + (cl_ (sp_W C ag c l k o))), .int 0], (hp_SH ++ dy, g2, r)) [] rfl trivial ?_
  refine mm_max lk_Sp_107 (mm_at ok_Sp_gain (i := 29) rfl).1 (by decide) ⟨Nat.le_refl _, Nat.le_refl _⟩ (Nat.le_of_ble_eq_true rfl) ?_
  rw [gn_eq (sp_vl_le _ _ h9')]
  exact mm_ri rfl (mm_at ok_Sp_gain (i := 30) rfl).1 ⟨Nat.le_refl _, Nat.le_refl _⟩ (⟨rfl, g2, rfl, hF1.tr hF2⟩)
def sp_rn (w : Int32) : Nat := (max 0 (min 99 w.toInt)).toNat
theorem rn_eq (w : Int32) : (if 0 < (if w < 99 then w else 99) then (if w < 99 then w else 99) else 0) = nI (sp_rn w) := by
  have h1 : (0 : Int32).toInt = 0 := rfl
  have h2 : (99 : Int32).toInt = 99 := rfl
  rw [← Int32.toInt_inj, nI_toI (by unfold sp_rn; omega)]
  simp only [Int32.lt_iff_toInt_lt, h1, h2]
  unfold sp_rn
  repeat' split
  all_goals simp only [h1, h2] at *
  all_goals omega
theorem ct_Sp_runCost (dy : List mm_Sh) (g P : Nat → Nat → Int32) (r : (Nat → Nat → Int64) × Nat × (Nat → Int32)) (hP : nr_ g = P) {C : Nat → List Int32} (hR : rt_R dy P C) {ag : Nat → Nat} {c b : Nat} (hc : c < 6) (hag : P 8 c = nI (ag c)) : mm_Ct 3 M_Sp_runCost [.ref 1, .int (nI c), .int (nI b)] (hp_SH ++ dy, g, r) 0 0 (fun v h' => v = some (.int (nI (sp_rn (sp_R C ag c b)))) ∧ ∃ g', h' = (hp_SH ++ dy, g', r) ∧ fr_ f1_ g g') := by
  obtain ⟨ru, tc, h22, hru, h11, htc, a0, a1, a2, hsh, -, -, ⟨s0, l0, n0, c0⟩⟩ := hR
  refine mm_start pl_Sp (Nat.le_of_ble_eq_true rfl) ?_
  refine mm_B ok_Sp_runCost 0 6 (6, [some (.ref 1), some (.int (nI c)), some (.int (nI b))], [.int 0, .int 0, .int 0, .int (nI b), .int (nI c), .ref 1], (hp_SH ++ dy, g, r)) [] rfl trivial ?_
  refine mm_cV (as := [.int (nI c), .int (nI b), .int 0, .int 0, .int 0]) (st := []) (q := 1) cw_Sp_stage lk_Sp_84 in_Sp_stage sl_Sp_stage rfl rfl (mm_at ok_Sp_runCost (i := 6) rfl).1 (ct_Sp_stage dy g r (nI c) (nI b) 0 0 0 (nI_vi hc (by decide))) (by decide) ⟨by omega, by omega⟩ (Nat.le_of_ble_eq_true rfl) (mm_vs_b (b := 77) rfl (hp_len dy)) (fun v h' hqq => ?_)
  obtain ⟨rfl, g1, hqe, hF1, q0, q1, q2, q3, q4, q5⟩ := hqq; rw [hqe]
  rw [nI_clamp (by omega), nr_at hP 8 c rfl, hag] at q4
  have hP1 := hF1.nr f1_nr hP
  refine mm_B ok_Sp_runCost 7 4 (14, [some (.ref 1), some (.int (nI c)), some (.int (nI b))], [.ref 1, .ref 1, .int 99, .int 0], (hp_SH ++ dy, g1, r)) [] rfl trivial ?_
  refine mm_cV (as := []) (st := [.ref 1, .int 99, .int 0]) (q := 1) cw_Sp_ruleText lk_Sp_88 in_Sp_ruleText sl_Sp_ruleText rfl rfl (mm_at ok_Sp_runCost (i := 11) rfl).1 (ct_Sp_ruleText dy g1 P r hP1 h22 hru h11 htc) (by decide) ⟨by omega, by omega⟩ (Nat.le_of_ble_eq_true rfl) (mm_vs_b (b := 77) rfl (hp_len dy)) (fun v h' hqq => ?_)
  obtain ⟨rfl, hqe⟩ := hqq; rw [hqe]
  refine mm_get (ci := 10) (y := 2) (mm_fm_lk (by decide +kernel)) hsh rfl (mm_at ok_Sp_runCost (i := 12) rfl).1 ?_
  refine mm_cV (as := [.ref a2]) (st := [.int 99, .int 0]) (q := 1) cw_Sp_worked lk_Sp_95 in_Sp_worked sl_Sp_worked rfl rfl (mm_at ok_Sp_runCost (i := 13) rfl).1 (ct_Sp_worked g1 P r dy s0 l0 n0 c0 hP1 rfl rfl) (by decide) ⟨by omega, by omega⟩ (Nat.le_of_ble_eq_true rfl) (mm_vs_b (b := 77) rfl (hp_len dy)) (fun v h' hqq => ?_)
  obtain ⟨rfl, g2, hqe, hF2⟩ := hqq; rw [hqe, ev_eq (C 2) q0 q1 q2 q3 q4 q5]
  refine mm_min lk_Sp_102 (mm_at ok_Sp_runCost (i := 14) rfl).1 (by decide) ⟨Nat.le_refl _, Nat.le_refl _⟩ (Nat.le_of_ble_eq_true rfl) ?_
  refine mm_max lk_Sp_107 (mm_at ok_Sp_runCost (i := 15) rfl).1 (by decide) ⟨Nat.le_refl _, Nat.le_refl _⟩ (Nat.le_of_ble_eq_true rfl) ?_
  rw [rn_eq]
  exact mm_ri rfl (mm_at ok_Sp_runCost (i := 16) rfl).1 ⟨Nat.le_refl _, Nat.le_refl _⟩ (⟨rfl, g2, rfl, hF1.tr hF2⟩)
/-- a lesson is heard at bend b -/
def sp_ub (T : sp_T) (c : sp_C) (b l : Nat) : Prop := sp_times T l ≤ c.1 l + 1 ∧ sp_has T c.2 b &&& T.2.2.2 l = T.2.2.2 l ∧ sp_has T c.2 b / 2 ^ l % 2 = 0
theorem sp_up_at (f : Nat → Nat) (k v : Nat) : sp_up f k v k = v := if_pos rfl
theorem sp_up_ne (f : Nat → Nat) {k j : Nat} (v : Nat) (h : j ≠ k) : sp_up f k v j = f j := if_neg h
noncomputable def sp_lis (T : sp_T) (c : sp_C) (b l : Nat) : sp_C := (sp_up c.1 l (c.1 l + 1), @ite _ (sp_ub T c b l) (Classical.propDecidable _) (sp_up c.2 l (b + 1)) c.2)
theorem sp_has_lt (T : sp_T) (t : Nat → Nat) (b : Nat) (h4 : T.1 ≤ 4) : sp_has T t b < 16 := by
  have h := sp_bits_lt T t b T.1
  have : 2 ^ T.1 ≤ 2 ^ 4 := Nat.pow_le_pow_right (by decide) h4
  unfold sp_has
  omega
theorem ct_Sp_listened (dy : List mm_Sh) (g P : Nat → Nat → Int32) (r : (Nat → Nat → Int64) × Nat × (Nat → Int32)) (hP : nr_ g = P) {T : sp_T} {c : sp_C} {b l : Nat} (hL : rl_L T P) (hb : b < 6) (hc : ∀ i, i < 4 → c.1 i ≤ b ∧ c.2 i ≤ b) (hl : l < T.1) : mm_Ct 6 M_Sp_listened [.ref 1, .int (nI (sp_enc c)), .int (nI b), .int (nI l)] (hp_SH ++ dy, g, r) 0 0 (fun v h' => v = some (.int (nI (sp_enc (sp_lis T c b l)))) ∧ h' = (hp_SH ++ dy, g, r)) := by
  have h4 := hL.2.1
  have hl4 : l < 4 := by omega
  obtain ⟨-, h6, h4l, h9', h5l, hnd⟩ := hL.2.2.1 l hl
  have h9 : T.2.2.1 l < 10 := by omega
  have hnd16 : T.2.2.2 l < 16 := Nat.lt_of_lt_of_le hnd (Nat.pow_le_pow_right (n := 2) (by decide) (show l ≤ 4 by omega))
  have hh := sp_has_lt T c.2 b h4
  have e4 : g 4 (nI l).toNatClampNeg = nI (T.2.2.1 l) := by rw [nI_clamp (by omega), nr_at hP 4 l rfl]; exact h4l
  have e5 : g 5 (nI l).toNatClampNeg = nI (T.2.2.2 l) := by rw [nI_clamp (by omega), nr_at hP 5 l rfl]; exact h5l
  obtain ⟨c', hc'⟩ : ∃ c' : sp_C, c' = (sp_up c.1 l (c.1 l + 1), c.2) := ⟨_, rfl⟩
  have hok : sp_ok c' := by
    intro i hi
    rw [hc']
    refine ⟨?_, by have := (hc i hi).2; show c.2 i < 7; omega⟩
    by_cases e : i = l
    · subst e; show sp_up c.1 i (c.1 i + 1) i < 7; rw [sp_up_at]; have := (hc i hi).1; omega
    · show sp_up c.1 l (c.1 l + 1) i < 7; rw [sp_up_ne _ _ e]; have := (hc i hi).1; omega
  have hc2 : c'.2 = c.2 := by rw [hc']
  have hcl : c'.1 l = c.1 l + 1 := by rw [hc']; exact sp_up_at _ _ _
  have hE : nI (sp_enc c) + (1 <<< ((3 * nI l) &&& 31)) = nI (sp_enc c') := by rw [me_hear hl4, hc']
  have htm : sp_times T l < 10 := by
    unfold sp_times sp_tm
    split <;> omega
  have hno : ¬ sp_ub T c b l → sp_enc (sp_lis T c b l) = sp_enc c' := by
    intro h
    unfold sp_lis
    rw [if_neg h, hc']
  have hyes : sp_ub T c b l → sp_enc (sp_lis T c b l) = sp_enc (c'.1, sp_up c'.2 l (b + 1)) := by
    intro h
    unfold sp_lis
    rw [if_pos h, hc']
  refine mm_start pl_Sp (Nat.le_of_ble_eq_true rfl) ?_
  refine mm_B ok_Sp_listened 0 8 (9, [some (.ref 1), some (.int (nI (sp_enc c))), some (.int (nI b)), some (.int (nI l)), some (.int ((nI (sp_enc c)) + (1 <<< ((3 * (nI l)) &&& 31)))), none, none, none, none], [], (hp_SH ++ dy, g, r)) [] rfl trivial ?_
  rw [hE]
  refine mm_B ok_Sp_listened 8 3 (13, [some (.ref 1), some (.int (nI (sp_enc c))), some (.int (nI b)), some (.int (nI l)), some (.int (nI (sp_enc c'))), none, none, none, none], [.int (nI b), .int (nI (sp_enc c')), .ref 1], (hp_SH ++ dy, g, r)) [] rfl trivial ?_
  refine mm_cV (as := [.int (nI (sp_enc c')), .int (nI b)]) (st := []) (q := 1) cw_Sp_owned lk_Sp_117 in_Sp_owned sl_Sp_owned rfl rfl (mm_at ok_Sp_listened (i := 11) rfl).1 (ct_Sp_owned dy g P r hP hL hok hb (fun i hi => by rw [hc2]; have := (hc i (by omega)).2; omega)) (by decide) ⟨by omega, by omega⟩ (Nat.le_of_ble_eq_true rfl) (mm_vs_b (b := 77) rfl (hp_len dy)) (fun v h' hqq => ?_)
  obtain ⟨rfl, hqe⟩ := hqq; rw [hqe, hc2]
  refine mm_B ok_Sp_listened 12 9 (32, [some (.ref 1), some (.int (nI (sp_enc c))), some (.int (nI b)), some (.int (nI l)), some (.int (nI (sp_enc c'))), some (.int (nI (sp_has T c.2 b))), some (.int (g 5 ((nI l).toNatClampNeg))), none, none], [.int (nI l), .int (nI (sp_enc c'))], (hp_SH ++ dy, g, r)) [vp_in (nI l) 4] rfl (show vp_in (nI l) 4 from (nI_vi hl4 (by decide))) ?_
  rw [e5]
  refine mm_cS (as := [.int (nI (sp_enc c')), .int (nI l)]) (st := []) cw_Sp_timesHeard lk_Sp_123 sx_Sp_timesHeard (mm_at ok_Sp_listened (i := 21) rfl).1 (ct_Sp_timesHeard (hp_SH ++ dy, g, r) (nI (sp_enc c')) (nI l)) (by decide) ⟨by omega, by omega⟩ (Nat.le_of_ble_eq_true rfl) (mm_vs_b (b := 77) rfl (hp_len dy)) (fun v h' hqq => ?_)
  obtain ⟨rfl, hqe⟩ := hqq; rw [hqe, me_times hok hl4, hcl]
  refine mm_B ok_Sp_listened 22 2 (37, [some (.ref 1), some (.int (nI (sp_enc c))), some (.int (nI b)), some (.int (nI l)), some (.int (nI (sp_enc c'))), some (.int (nI (sp_has T c.2 b))), some (.int (nI (T.2.2.2 l))), none, none], [.int (nI l), .ref 1, .int (nI (c.1 l + 1))], (hp_SH ++ dy, g, r)) [] rfl trivial ?_
  refine mm_cV (as := [.int (nI l)]) (st := [.int (nI (c.1 l + 1))]) (q := 1) cw_Sp_kindOf lk_Sp_73 in_Sp_kindOf sl_Sp_kindOf rfl rfl (mm_at ok_Sp_listened (i := 24) rfl).1 (ct_Sp_kindOf dy g P r hP hL hl) (by decide) ⟨by omega, by omega⟩ (Nat.le_of_ble_eq_true rfl) (mm_vs_b (b := 77) rfl (hp_len dy)) (fun v h' hqq => ?_)
  obtain ⟨rfl, hqe⟩ := hqq; rw [hqe]
  refine mm_B ok_Sp_listened 25 5 (49, [some (.ref 1), some (.int (nI (sp_enc c))), some (.int (nI b)), some (.int (nI l)), some (.int (nI (sp_enc c'))), some (.int (nI (sp_has T c.2 b))), some (.int (nI (T.2.2.2 l))), none, none], [.int (g 4 ((nI l).toNatClampNeg)), .ref (19 + T.2.1 l), .int (nI (c.1 l + 1))], (hp_SH ++ dy, g, r)) [vp_in (nI l) 4] rfl (show vp_in (nI l) 4 from (nI_vi hl4 (by decide))) ?_
  rw [e4]
  refine vc_times (k := T.2.1 l) h6 lk_Sp_126 (mm_at ok_Sp_listened (i := 30) rfl).1 (by decide) ⟨Nat.le_refl _, Nat.le_refl _⟩ (Nat.le_of_ble_eq_true rfl) (mm_vs_b (b := 77) rfl (hp_len dy)) ?_
  rw [vn_times _ h6 _ h9]
  have hcb := (hc l hl4).1
  refine mm_I ok_Sp_listened 31 0 52 [some (.ref 1), some (.int (nI (sp_enc c))), some (.int (nI b)), some (.int (nI l)), some (.int (nI (sp_enc c'))), some (.int (nI (sp_has T c.2 b))), some (.int (nI (T.2.2.2 l))), none, none] [.int (nI (sp_times T l)), .int (nI (c.1 l + 1))] (hp_SH ++ dy, g, r) [] rfl trivial rfl rfl (fun ht => ?_) (fun ht => ?_)
  · have ht : ¬ sp_times T l ≤ c.1 l + 1 := fun q => nI_nlt q (by omega) ht
    refine mm_B ok_Sp_listened 34 1 (60, [some (.ref 1), some (.int (nI (sp_enc c))), some (.int (nI b)), some (.int (nI l)), some (.int (nI (sp_enc c'))), some (.int (nI (sp_has T c.2 b))), some (.int (nI (T.2.2.2 l))), none, none], [.int 0], (hp_SH ++ dy, g, r)) [] rfl trivial ?_
    refine mm_I ok_Sp_listened 35 2 64 [some (.ref 1), some (.int (nI (sp_enc c))), some (.int (nI b)), some (.int (nI l)), some (.int (nI (sp_enc c'))), some (.int (nI (sp_has T c.2 b))), some (.int (nI (T.2.2.2 l))), some (.int 0), none] [.int 0] (hp_SH ++ dy, g, r) [] rfl trivial rfl rfl (fun _ => ?_) (fun q => False.elim (q rfl))
    refine mm_B ok_Sp_listened 49 1 (88, [some (.ref 1), some (.int (nI (sp_enc c))), some (.int (nI b)), some (.int (nI l)), some (.int (nI (sp_enc c'))), some (.int (nI (sp_has T c.2 b))), some (.int (nI (T.2.2.2 l))), some (.int 0), none], [.int (nI (sp_enc c'))], (hp_SH ++ dy, g, r)) [] rfl trivial ?_
    rw [← hno (fun q => ht q.1)]
    exact mm_ri rfl (mm_at ok_Sp_listened (i := 50) rfl).1 ⟨Nat.le_refl _, Nat.le_refl _⟩ (⟨rfl, rfl⟩)
  · have ht : sp_times T l ≤ c.1 l + 1 := by
      rcases Nat.lt_or_ge (c.1 l + 1) (sp_times T l) with h | h
      · exact absurd (nI_lt h (by omega)) ht
      · exact h
    refine mm_B ok_Sp_listened 32 2 (60, [some (.ref 1), some (.int (nI (sp_enc c))), some (.int (nI b)), some (.int (nI l)), some (.int (nI (sp_enc c'))), some (.int (nI (sp_has T c.2 b))), some (.int (nI (T.2.2.2 l))), none, none], [.int 1], (hp_SH ++ dy, g, r)) [] rfl trivial ?_
    refine mm_I ok_Sp_listened 35 2 64 [some (.ref 1), some (.int (nI (sp_enc c))), some (.int (nI b)), some (.int (nI l)), some (.int (nI (sp_enc c'))), some (.int (nI (sp_has T c.2 b))), some (.int (nI (T.2.2.2 l))), some (.int 1), none] [.int 1] (hp_SH ++ dy, g, r) [] rfl trivial rfl rfl (fun q => False.elim (absurd q (by decide))) (fun _ => ?_)
    refine mm_B ok_Sp_listened 38 4 (74, [some (.ref 1), some (.int (nI (sp_enc c))), some (.int (nI b)), some (.int (nI l)), some (.int (nI (sp_enc c'))), some (.int (nI (sp_has T c.2 b))), some (.int (nI (T.2.2.2 l))), some (.int 1), none], [.int (nI (T.2.2.2 l)), .int ((nI (sp_has T c.2 b)) &&& (nI (T.2.2.2 l)))], (hp_SH ++ dy, g, r)) [] rfl trivial ?_
    rw [bt_and]
    have hand : sp_has T c.2 b &&& T.2.2.2 l ≤ T.2.2.2 l := Nat.and_le_right
    refine mm_I ok_Sp_listened 42 0 74 [some (.ref 1), some (.int (nI (sp_enc c))), some (.int (nI b)), some (.int (nI l)), some (.int (nI (sp_enc c'))), some (.int (nI (sp_has T c.2 b))), some (.int (nI (T.2.2.2 l))), some (.int 1), none] [.int (nI (T.2.2.2 l)), .int (nI (sp_has T c.2 b &&& T.2.2.2 l))] (hp_SH ++ dy, g, r) [] rfl trivial rfl rfl (fun hn => ?_) (fun hn => ?_)
    · have hn : ¬ sp_has T c.2 b &&& T.2.2.2 l = T.2.2.2 l := fun q => hn (by rw [q])
      refine mm_B ok_Sp_listened 49 1 (88, [some (.ref 1), some (.int (nI (sp_enc c))), some (.int (nI b)), some (.int (nI l)), some (.int (nI (sp_enc c'))), some (.int (nI (sp_has T c.2 b))), some (.int (nI (T.2.2.2 l))), some (.int 1), none], [.int (nI (sp_enc c'))], (hp_SH ++ dy, g, r)) [] rfl trivial ?_
      rw [← hno (fun q => hn q.2.1)]
      exact mm_ri rfl (mm_at ok_Sp_listened (i := 50) rfl).1 ⟨Nat.le_refl _, Nat.le_refl _⟩ (⟨rfl, rfl⟩)
    · have hn := (nI_eq (by omega) (by omega)).mp hn
      refine mm_B ok_Sp_listened 43 5 (83, [some (.ref 1), some (.int (nI (sp_enc c))), some (.int (nI b)), some (.int (nI l)), some (.int (nI (sp_enc c'))), some (.int (nI (sp_has T c.2 b))), some (.int (nI (T.2.2.2 l))), some (.int 1), none], [.int (((nI (sp_has T c.2 b)) >>> ((nI l) &&& 31)) &&& 1)], (hp_SH ++ dy, g, r)) [] rfl trivial ?_
      rw [bt_tst _ hh _ hl4]
      refine mm_I ok_Sp_listened 48 0 83 [some (.ref 1), some (.int (nI (sp_enc c))), some (.int (nI b)), some (.int (nI l)), some (.int (nI (sp_enc c'))), some (.int (nI (sp_has T c.2 b))), some (.int (nI (T.2.2.2 l))), some (.int 1), none] [.int (nI (sp_has T c.2 b / 2 ^ l % 2))] (hp_SH ++ dy, g, r) [] rfl trivial rfl rfl (fun hz => ?_) (fun hz => ?_)
      · have hz : sp_has T c.2 b / 2 ^ l % 2 = 0 := by
          rcases Nat.eq_zero_or_pos (sp_has T c.2 b / 2 ^ l % 2) with h | h
          · exact h
          · exact absurd hz (nI_ne0 h (by omega))
        refine mm_B ok_Sp_listened 51 19 (114, [some (.ref 1), some (.int (nI (sp_enc c))), some (.int (nI b)), some (.int (nI l)), some (.int (nI (sp_enc c'))), some (.int (nI (sp_has T c.2 b))), some (.int (nI (T.2.2.2 l))), some (.int 1), some (.int (12 + (3 * (nI l))))], [.int (((nI (sp_enc c')) &&& ((7 <<< ((12 + (3 * (nI l))) &&& 31)) ^^^ (-1))) ||| (((nI b) + 1) <<< ((12 + (3 * (nI l))) &&& 31)))], (hp_SH ++ dy, g, r)) [] rfl trivial ?_
        rw [me_put hok hl4 hb, ← hyes ⟨ht, hn, hz⟩]
        exact mm_ri rfl (mm_at ok_Sp_listened (i := 70) rfl).1 ⟨Nat.le_refl _, Nat.le_refl _⟩ (⟨rfl, rfl⟩)
      · have hz : ¬ sp_has T c.2 b / 2 ^ l % 2 = 0 := fun q => hz (by rw [q]; rfl)
        refine mm_B ok_Sp_listened 49 1 (88, [some (.ref 1), some (.int (nI (sp_enc c))), some (.int (nI b)), some (.int (nI l)), some (.int (nI (sp_enc c'))), some (.int (nI (sp_has T c.2 b))), some (.int (nI (T.2.2.2 l))), some (.int 1), none], [.int (nI (sp_enc c'))], (hp_SH ++ dy, g, r)) [] rfl trivial ?_
        rw [← hno (fun q => hz q.2.2)]
        exact mm_ri rfl (mm_at ok_Sp_listened (i := 50) rfl).1 ⟨Nat.le_refl _, Nat.le_refl _⟩ (⟨rfl, rfl⟩)
end
section
/-! ===== Spring: a whole spring of a child ===== -/
/-- a place of a plan: a lesson, or none -/
def pl_c : Option Nat → Int32
  | none => -1
  | some l => nI l
noncomputable def sp_stp (T : sp_T) (H : Nat → Nat → Nat → Nat → Bool) (b : Nat) (ol : Option Nat) (c : sp_C) : sp_C := match ol with
  | none => c
  | some l => if H b l (sp_pc (sp_has T c.2 b)) (c.1 l) = true then sp_lis T c b l else c
/-- what is carried ahead of bend n -/
noncomputable def sp_run (T : sp_T) (H : Nat → Nat → Nat → Nat → Bool) (pl : Nat → Option Nat) (on off : Nat) : Nat → sp_C
  | 0 => (fun _ => 0, fun _ => 0)
  | n + 1 => if on ≤ n ∧ n ≤ off then sp_stp T H n (pl n) (sp_run T H pl on off n) else sp_run T H pl on off n
theorem sp_lis_le {T : sp_T} {c : sp_C} {b l : Nat} (h : ∀ i, i < 4 → c.1 i ≤ b ∧ c.2 i ≤ b) : ∀ i, i < 4 → (sp_lis T c b l).1 i ≤ b + 1 ∧ (sp_lis T c b l).2 i ≤ b + 1 := by
  intro i hi
  have h1 := h i hi
  refine ⟨?_, ?_⟩
  · show sp_up c.1 l (c.1 l + 1) i ≤ b + 1
    by_cases e : i = l
    · subst e; rw [sp_up_at]; omega
    · rw [sp_up_ne _ _ e]; omega
  · show (@ite _ (sp_ub T c b l) (Classical.propDecidable _) (sp_up c.2 l (b + 1)) c.2) i ≤ b + 1
    split
    · by_cases e : i = l
      · subst e; rw [sp_up_at]; omega
      · rw [sp_up_ne _ _ e]; omega
    · omega
theorem sp_run_le (T : sp_T) (H : Nat → Nat → Nat → Nat → Bool) (pl : Nat → Option Nat) (on off : Nat) : ∀ n i, i < 4 → (sp_run T H pl on off n).1 i ≤ n ∧ (sp_run T H pl on off n).2 i ≤ n := by
  intro n
  induction n with
  | zero => intro i _; exact ⟨Nat.le_refl _, Nat.le_refl _⟩
  | succ n ih =>
    intro i hi
    have h0 := ih i hi
    simp only [sp_run]
    split
    · unfold sp_stp
      split
      · omega
      · split
        · exact sp_lis_le ih i hi
        · omega
    · omega
theorem sp_run_ok (T : sp_T) (H : Nat → Nat → Nat → Nat → Bool) (pl : Nat → Option Nat) (on off : Nat) {n : Nat} (hn : n ≤ 6) : sp_ok (sp_run T H pl on off n) := by
  intro i hi
  have h := sp_run_le T H pl on off n i hi
  omega
theorem sp_run_on {T : sp_T} {H : Nat → Nat → Nat → Nat → Bool} {pl : Nat → Option Nat} {on off : Nat} : ∀ n, n ≤ on → sp_run T H pl on off n = (fun _ => 0, fun _ => 0) := by
  intro n
  induction n with
  | zero => intro _; rfl
  | succ n ih => intro h; simp only [sp_run]; rw [if_neg (by omega), ih (by omega)]
theorem sp_run_off {T : sp_T} {H : Nat → Nat → Nat → Nat → Bool} {pl : Nat → Option Nat} {on off k : Nat} (hk : off < k) : ∀ n, k ≤ n → sp_run T H pl on off n = sp_run T H pl on off k := by
  intro n
  induction n with
  | zero => intro h; rw [show k = 0 by omega]
  | succ n ih =>
    intro h
    by_cases e : k = n + 1
    · rw [e]
    · simp only [sp_run]
      rw [if_neg (by omega), ih (by omega)]
theorem nI_m1 : ∀ l, l < 4 → ¬ nI l = -1 := by decide
theorem sp_enc0 : nI (sp_enc (fun _ => 0, fun _ => 0)) = 0 := rfl
theorem sp_pc_lt : ∀ n, n < 16 → sp_pc n < 5 := by decide
/-- the program's children -/
abbrev sp_K : Type := Nat × (Nat → Nat) × (Nat → Nat) × (Nat → Nat)
def rl_C (K : sp_K) (P : Nat → Nat → Int32) : Prop := P 2 1 = nI K.1 ∧ K.1 ≤ 6 ∧ ∀ c, c < K.1 → P 6 c = nI (K.2.1 c) ∧ P 7 c = nI (K.2.2.1 c) ∧ K.2.1 c ≤ K.2.2.1 c ∧ K.2.2.1 c ≤ 5 ∧ P 8 c = nI (K.2.2.2 c)
theorem mo_go (dy : List mm_Sh) (g P : Nat → Nat → Int32) (r : (Nat → Nat → Int64) × Nat × (Nat → Int32)) (hP : nr_ g = P) {C : Nat → List Int32} (hR : rt_R dy P C) {T : sp_T} (hL : rl_L T P) {ag : Nat → Nat} {c on off : Nat} (hc : c < 6) (hag : P 8 c = nI (ag c)) (hoff : off ≤ 5) {pa : Nat} {pl : Nat → Option Nat} (hpa : (hp_SH ++ dy)[pa]? = some (.inl (0, 6))) (hpf : ∀ j, f1_ pa j = false) (hpl : ∀ b, b < 6 → g pa b = pl_c (pl b)) (hpo : ∀ b l, b < 6 → pl b = some l → l < T.1) : ∀ (m k : Nat) (g1 : Nat → Nat → Int32), off + 1 - k ≤ m → on ≤ k → k ≤ 6 → fr_ f1_ g g1 → mm_W 7 M_Sp_memoryOf 0 0 (fun v h' => v = some (.int (nI (sp_enc (sp_run T (sp_H C ag c) pl on off 6)))) ∧ ∃ g', h' = (hp_SH ++ dy, g', r) ∧ fr_ f1_ g g') 0 0 (6, [some (.ref 1), some (.int (nI c)), some (.int (nI on)), some (.int (nI off)), some (.ref pa), some (.int (nI (sp_enc (sp_run T (sp_H C ag c) pl on off k)))), some (.int (nI k)), none, none], [], (hp_SH ++ dy, g1, r)) := by
  have h4 := hL.2.1
  have hplt : pa < (hp_SH ++ dy).length := (List.getElem?_eq_some_iff.mp hpa).1
  intro m
  induction m with
  | zero =>
    intro k g1 hm hon hk6 hF
    refine mm_I ok_Sp_memoryOf 4 2 9 [some (.ref 1), some (.int (nI c)), some (.int (nI on)), some (.int (nI off)), some (.ref pa), some (.int (nI (sp_enc (sp_run T (sp_H C ag c) pl on off k)))), some (.int (nI k)), none, none] [.int (nI off), .int (nI k)] (hp_SH ++ dy, g1, r) [] rfl trivial rfl rfl (fun _ => ?_) (fun q => False.elim (q (nI_lt (by omega) (by omega))))
    refine mm_B ok_Sp_memoryOf 39 1 (82, [some (.ref 1), some (.int (nI c)), some (.int (nI on)), some (.int (nI off)), some (.ref pa), some (.int (nI (sp_enc (sp_run T (sp_H C ag c) pl on off k)))), some (.int (nI k)), none, none], [.int (nI (sp_enc (sp_run T (sp_H C ag c) pl on off k)))], (hp_SH ++ dy, g1, r)) [] rfl trivial ?_
    have e9 : sp_run T (sp_H C ag c) pl on off 6 = sp_run T (sp_H C ag c) pl on off k := sp_run_off (by omega) 6 hk6
    exact mm_ri rfl (mm_at ok_Sp_memoryOf (i := 40) rfl).1 ⟨Nat.le_refl _, Nat.le_refl _⟩ (⟨by rw [e9], g1, rfl, hF⟩)
  | succ m ih =>
    intro k g1 hm hon hk6 hF
    by_cases hko : off < k
    · exact ih k g1 (by omega) hon hk6 hF
    · obtain ⟨cs, hcs⟩ : ∃ cs, cs = sp_run T (sp_H C ag c) pl on off k := ⟨_, rfl⟩
      have hle : ∀ i, i < 4 → cs.1 i ≤ k ∧ cs.2 i ≤ k := by rw [hcs]; exact sp_run_le _ _ _ _ _ k
      have hok : sp_ok cs := by rw [hcs]; exact sp_run_ok _ _ _ _ _ hk6
      have hh := sp_has_lt T cs.2 k h4
      have hP1 := hF.nr f1_nr hP
      have hk5 : k < 6 := by omega
      have epl : g1 pa (nI k).toNatClampNeg = pl_c (pl k) := by rw [nI_clamp (by omega), hF pa k (hpf k)]; exact hpl k hk5
      have hnext : sp_run T (sp_H C ag c) pl on off (k + 1) = sp_stp T (sp_H C ag c) k (pl k) cs := by simp only [sp_run]; rw [if_pos (by omega), hcs]
      rw [← hcs]
      refine mm_I ok_Sp_memoryOf 4 2 9 [some (.ref 1), some (.int (nI c)), some (.int (nI on)), some (.int (nI off)), some (.ref pa), some (.int (nI (sp_enc cs))), some (.int (nI k)), none, none] [.int (nI off), .int (nI k)] (hp_SH ++ dy, g1, r) [] rfl trivial rfl rfl (fun q => False.elim (nI_nlt (show k ≤ off by omega) (by omega) q)) (fun _ => ?_)
      refine mm_B ok_Sp_memoryOf 7 2 (16, [some (.ref 1), some (.int (nI c)), some (.int (nI on)), some (.int (nI off)), some (.ref pa), some (.int (nI (sp_enc cs))), some (.int (nI k)), none, none], [.int (nI k), .ref pa], (hp_SH ++ dy, g1, r)) [] rfl trivial ?_
      refine mm_iald hpa (nI_vi hk5 (by decide)) (mm_at ok_Sp_memoryOf (i := 9) rfl).1 ?_
      refine mm_B ok_Sp_memoryOf 10 3 (22, [some (.ref 1), some (.int (nI c)), some (.int (nI on)), some (.int (nI off)), some (.ref pa), some (.int (nI (sp_enc cs))), some (.int (nI k)), some (.int (g1 pa (nI k).toNatClampNeg)), none], [.int (-1), .int (g1 pa (nI k).toNatClampNeg)], (hp_SH ++ dy, g1, r)) [] rfl trivial ?_
      rw [epl]
      cases hp : pl k with
      | none =>
        refine mm_I ok_Sp_memoryOf 13 0 22 [some (.ref 1), some (.int (nI c)), some (.int (nI on)), some (.int (nI off)), some (.ref pa), some (.int (nI (sp_enc cs))), some (.int (nI k)), some (.int (-1)), none] [.int (-1), .int (-1)] (hp_SH ++ dy, g1, r) [] rfl trivial rfl rfl (fun q => False.elim (q rfl)) (fun _ => ?_)
        refine mm_B ok_Sp_memoryOf 14 1 (74, [some (.ref 1), some (.int (nI c)), some (.int (nI on)), some (.int (nI off)), some (.ref pa), some (.int (nI (sp_enc cs))), some (.int (nI k)), some (.int (-1)), none], [], (hp_SH ++ dy, g1, r)) [] rfl trivial ?_
        refine mm_B ok_Sp_memoryOf 37 2 (6, [some (.ref 1), some (.int (nI c)), some (.int (nI on)), some (.int (nI off)), some (.ref pa), some (.int (nI (sp_enc cs))), some (.int ((nI k) + 1)), some (.int (-1)), none], [], (hp_SH ++ dy, g1, r)) [] rfl trivial ?_
        rw [nI_1]
        refine mm_fg [7] ?_
        have hn : sp_run T (sp_H C ag c) pl on off (k + 1) = cs := by rw [hnext, hp]; rfl
        have h8 := ih (k + 1) g1 (by omega) (by omega) (by omega) hF
        rw [hn] at h8
        exact h8
      | some l =>
        have hl := hpo k l hk5 hp
        refine mm_I ok_Sp_memoryOf 13 0 22 [some (.ref 1), some (.int (nI c)), some (.int (nI on)), some (.int (nI off)), some (.ref pa), some (.int (nI (sp_enc cs))), some (.int (nI k)), some (.int (nI l)), none] [.int (-1), .int (nI l)] (hp_SH ++ dy, g1, r) [] rfl trivial rfl rfl (fun _ => ?_) (fun q => False.elim (absurd q (nI_m1 l (by omega))))
        refine mm_B ok_Sp_memoryOf 15 3 (33, [some (.ref 1), some (.int (nI c)), some (.int (nI on)), some (.int (nI off)), some (.ref pa), some (.int (nI (sp_enc cs))), some (.int (nI k)), some (.int (nI l)), none], [.int (nI k), .int (nI (sp_enc cs)), .ref 1], (hp_SH ++ dy, g1, r)) [] rfl trivial ?_
        refine mm_cV (as := [.int (nI (sp_enc cs)), .int (nI k)]) (st := []) (q := 1) cw_Sp_owned lk_Sp_117 in_Sp_owned sl_Sp_owned rfl rfl (mm_at ok_Sp_memoryOf (i := 18) rfl).1 (ct_Sp_owned dy g1 P r hP1 hL hok hk5 (fun i hi => by have := (hle i (by omega)).2; omega)) (by decide) ⟨by omega, by omega⟩ (Nat.le_of_ble_eq_true rfl) ⟨fun k hk => by simp only [List.mem_cons, Option.some.injEq, Value.ref.injEq, reduceCtorEq, List.not_mem_nil, or_false, false_or] at hk; rcases hk with rfl | rfl <;> first | exact hplt | exact Nat.lt_of_lt_of_le (by decide) (hp_len dy), (mm_vs_b (b := 77) (lv := []) rfl (hp_len dy)).2⟩ (fun v h' hqq => ?_)
        obtain ⟨rfl, hqe⟩ := hqq; rw [hqe]
        refine mm_cS (as := [.int (nI (sp_has T cs.2 k))]) (st := []) cw_In_bitCount lk_Sp_129 sx_In_bitCount (mm_at ok_Sp_memoryOf (i := 19) rfl).1 (ct_In_bitCount (hp_SH ++ dy, g1, r) (nI (sp_has T cs.2 k))) (by decide) ⟨by omega, by omega⟩ (Nat.le_of_ble_eq_true rfl) ⟨fun k hk => by simp only [List.mem_cons, Option.some.injEq, Value.ref.injEq, reduceCtorEq, List.not_mem_nil, or_false, false_or] at hk; rcases hk with rfl | rfl <;> first | exact hplt | exact Nat.lt_of_lt_of_le (by decide) (hp_len dy), (mm_vs_b (b := 77) (lv := []) rfl (hp_len dy)).2⟩ (fun v h' hqq => ?_)
        obtain ⟨rfl, hqe⟩ := hqq; rw [hqe, pc_bc _ hh]
        refine mm_B ok_Sp_memoryOf 20 8 (53, [some (.ref 1), some (.int (nI c)), some (.int (nI on)), some (.int (nI off)), some (.ref pa), some (.int (nI (sp_enc cs))), some (.int (nI k)), some (.int (nI l)), some (.int (nI (sp_pc (sp_has T cs.2 k))))], [.int (nI l), .int (nI (sp_enc cs)), .int (nI (sp_pc (sp_has T cs.2 k))), .int (nI l), .int (nI k), .int (nI c), .ref 1], (hp_SH ++ dy, g1, r)) [] rfl trivial ?_
        refine mm_cS (as := [.int (nI (sp_enc cs)), .int (nI l)]) (st := [.int (nI (sp_pc (sp_has T cs.2 k))), .int (nI l), .int (nI k), .int (nI c), .ref 1]) cw_Sp_timesHeard lk_Sp_123 sx_Sp_timesHeard (mm_at ok_Sp_memoryOf (i := 28) rfl).1 (ct_Sp_timesHeard (hp_SH ++ dy, g1, r) (nI (sp_enc cs)) (nI l)) (by decide) ⟨by omega, by omega⟩ (Nat.le_of_ble_eq_true rfl) ⟨fun k hk => by simp only [List.mem_cons, Option.some.injEq, Value.ref.injEq, reduceCtorEq, List.not_mem_nil, or_false, false_or] at hk; rcases hk with rfl | rfl <;> first | exact hplt | exact Nat.lt_of_lt_of_le (by decide) (hp_len dy), (mm_vs_b (b := 77) (lv := []) rfl (hp_len dy)).2⟩ (fun v h' hqq => ?_)
        obtain ⟨rfl, hqe⟩ := hqq; rw [hqe, me_times hok (by omega)]
        refine mm_cV (as := [.int (nI c), .int (nI k), .int (nI l), .int (nI (sp_pc (sp_has T cs.2 k))), .int (nI (cs.1 l))]) (st := []) (q := 1) cw_Sp_hears lk_Sp_134 in_Sp_hears sl_Sp_hears rfl rfl (mm_at ok_Sp_memoryOf (i := 29) rfl).1 (ct_Sp_hears dy g1 P r hP1 hR (ag := ag) (b := k) (l := l) (k := sp_pc (sp_has T cs.2 k)) (o := cs.1 l) hc hag) (by decide) ⟨by omega, by omega⟩ (Nat.le_of_ble_eq_true rfl) ⟨fun k hk => by simp only [List.mem_cons, Option.some.injEq, Value.ref.injEq, reduceCtorEq, List.not_mem_nil, or_false, false_or] at hk; rcases hk with rfl | rfl <;> first | exact hplt | exact Nat.lt_of_lt_of_le (by decide) (hp_len dy), (mm_vs_b (b := 77) (lv := []) rfl (hp_len dy)).2⟩ (fun v h' hqq => ?_)
        obtain ⟨rfl, g2, hqe, hF2⟩ := hqq; rw [hqe]
        have hP2 := hF2.nr f1_nr hP1
        by_cases hH : sp_H C ag c k l (sp_pc (sp_has T cs.2 k)) (cs.1 l) = true
        · rw [if_pos hH]
          refine mm_I ok_Sp_memoryOf 30 0 59 [some (.ref 1), some (.int (nI c)), some (.int (nI on)), some (.int (nI off)), some (.ref pa), some (.int (nI (sp_enc cs))), some (.int (nI k)), some (.int (nI l)), some (.int (nI (sp_pc (sp_has T cs.2 k))))] [.int 1] (hp_SH ++ dy, g2, r) [] rfl trivial rfl rfl (fun q => False.elim (absurd q (by decide))) (fun _ => ?_)
          refine mm_B ok_Sp_memoryOf 31 4 (69, [some (.ref 1), some (.int (nI c)), some (.int (nI on)), some (.int (nI off)), some (.ref pa), some (.int (nI (sp_enc cs))), some (.int (nI k)), some (.int (nI l)), some (.int (nI (sp_pc (sp_has T cs.2 k))))], [.int (nI l), .int (nI k), .int (nI (sp_enc cs)), .ref 1], (hp_SH ++ dy, g2, r)) [] rfl trivial ?_
          refine mm_cV (as := [.int (nI (sp_enc cs)), .int (nI k), .int (nI l)]) (st := []) (q := 1) cw_Sp_listened lk_Sp_137 in_Sp_listened sl_Sp_listened rfl rfl (mm_at ok_Sp_memoryOf (i := 35) rfl).1 (ct_Sp_listened dy g2 P r hP2 hL hk5 hle hl) (by decide) ⟨by omega, by omega⟩ (Nat.le_of_ble_eq_true rfl) ⟨fun k hk => by simp only [List.mem_cons, Option.some.injEq, Value.ref.injEq, reduceCtorEq, List.not_mem_nil, or_false, false_or] at hk; rcases hk with rfl | rfl <;> first | exact hplt | exact Nat.lt_of_lt_of_le (by decide) (hp_len dy), (mm_vs_b (b := 77) (lv := []) rfl (hp_len dy)).2⟩ (fun v h' hqq => ?_)
          obtain ⟨rfl, hqe⟩ := hqq; rw [hqe]
          refine mm_B ok_Sp_memoryOf 36 3 (6, [some (.ref 1), some (.int (nI c)), some (.int (nI on)), some (.int (nI off)), some (.ref pa), some (.int (nI (sp_enc (sp_lis T cs k l)))), some (.int ((nI k) + 1)), some (.int (nI l)), some (.int (nI (sp_pc (sp_has T cs.2 k))))], [], (hp_SH ++ dy, g2, r)) [] rfl trivial ?_
          rw [nI_1]
          refine mm_fg [7, 8] ?_
          have hn : sp_run T (sp_H C ag c) pl on off (k + 1) = sp_lis T cs k l := by rw [hnext, hp]; show (if _ then _ else _) = _; rw [if_pos hH]
          have h8 := ih (k + 1) g2 (by omega) (by omega) (by omega) (hF.tr hF2)
          rw [hn] at h8
          exact h8
        · rw [if_neg hH]
          refine mm_I ok_Sp_memoryOf 30 0 59 [some (.ref 1), some (.int (nI c)), some (.int (nI on)), some (.int (nI off)), some (.ref pa), some (.int (nI (sp_enc cs))), some (.int (nI k)), some (.int (nI l)), some (.int (nI (sp_pc (sp_has T cs.2 k))))] [.int 0] (hp_SH ++ dy, g2, r) [] rfl trivial rfl rfl (fun _ => ?_) (fun q => False.elim (q rfl))
          refine mm_B ok_Sp_memoryOf 37 2 (6, [some (.ref 1), some (.int (nI c)), some (.int (nI on)), some (.int (nI off)), some (.ref pa), some (.int (nI (sp_enc cs))), some (.int ((nI k) + 1)), some (.int (nI l)), some (.int (nI (sp_pc (sp_has T cs.2 k))))], [], (hp_SH ++ dy, g2, r)) [] rfl trivial ?_
          rw [nI_1]
          refine mm_fg [7, 8] ?_
          have hn : sp_run T (sp_H C ag c) pl on off (k + 1) = cs := by rw [hnext, hp]; show (if _ then _ else _) = _; rw [if_neg hH]
          have h8 := ih (k + 1) g2 (by omega) (by omega) (by omega) (hF.tr hF2)
          rw [hn] at h8
          exact h8
theorem ct_Sp_memoryOf (dy : List mm_Sh) (g P : Nat → Nat → Int32) (r : (Nat → Nat → Int64) × Nat × (Nat → Int32)) (hP : nr_ g = P) {C : Nat → List Int32} (hR : rt_R dy P C) {T : sp_T} (hL : rl_L T P) {ag : Nat → Nat} {c on off : Nat} (hc : c < 6) (hag : P 8 c = nI (ag c)) (hon : on ≤ 6) (hoff : off ≤ 5) {pa : Nat} {pl : Nat → Option Nat} (hpa : (hp_SH ++ dy)[pa]? = some (.inl (0, 6))) (hpf : ∀ j, f1_ pa j = false) (hpl : ∀ b, b < 6 → g pa b = pl_c (pl b)) (hpo : ∀ b l, b < 6 → pl b = some l → l < T.1) : mm_Ct 7 M_Sp_memoryOf [.ref 1, .int (nI c), .int (nI on), .int (nI off), .ref pa] (hp_SH ++ dy, g, r) 0 0 (fun v h' => v = some (.int (nI (sp_enc (sp_run T (sp_H C ag c) pl on off 6)))) ∧ ∃ g', h' = (hp_SH ++ dy, g', r) ∧ fr_ f1_ g g') := by
  refine mm_start pl_Sp (Nat.le_of_ble_eq_true rfl) ?_
  refine mm_B ok_Sp_memoryOf 0 4 (6, [some (.ref 1), some (.int (nI c)), some (.int (nI on)), some (.int (nI off)), some (.ref pa), some (.int 0), some (.int (nI on)), none, none], [], (hp_SH ++ dy, g, r)) [] rfl trivial ?_
  have h8 := mo_go dy g P r hP hR hL hc hag hoff hpa hpf hpl hpo (on := on) 6 on g (by omega) (Nat.le_refl _) hon fr_.rf
  rw [sp_run_on on (Nat.le_refl _)] at h8
  exact h8
end
section
/-! ===== Spring: what is owned behind a bend, points, exams ===== -/
theorem nI_mn (a b : Nat) (ha : a < 2 ^ 31) (hb : b < 2 ^ 31) : (if nI b < nI a then nI b else nI a) = nI (min a b) := by
  by_cases h : b < a
  · rw [if_pos (nI_lt h ha), Nat.min_eq_right (by omega)]
  · rw [if_neg (nI_nlt (by omega) hb), Nat.min_eq_left (by omega)]
theorem sp_run_min {T : sp_T} {H : Nat → Nat → Nat → Nat → Bool} {pl : Nat → Option Nat} {on off b : Nat} : ∀ n, n ≤ b + 1 → sp_run T H pl on (min off b) n = sp_run T H pl on off n := by
  intro n
  induction n with
  | zero => intro _; rfl
  | succ n ih =>
    intro h
    simp only [sp_run]
    rw [ih (by omega)]
    by_cases h1 : on ≤ n ∧ n ≤ off
    · rw [if_pos h1, if_pos (by omega)]
    · rw [if_neg h1, if_neg (by omega)]
/-- behind bend b -/
theorem sp_run_beh {T : sp_T} {H : Nat → Nat → Nat → Nat → Bool} {pl : Nat → Option Nat} {on off b : Nat} (hb : b ≤ 5) : sp_run T H pl on (min off b) 6 = sp_run T H pl on off (b + 1) := by
  rw [← sp_run_min (b + 1) (Nat.le_refl _)]
  exact sp_run_off (by omega) 6 (by omega)
theorem ct_Sp_ownedBehind (dy : List mm_Sh) (g P : Nat → Nat → Int32) (r : (Nat → Nat → Int64) × Nat × (Nat → Int32)) (hP : nr_ g = P) {C : Nat → List Int32} (hR : rt_R dy P C) {T : sp_T} (hL : rl_L T P) {ag : Nat → Nat} {c on off b : Nat} {pl : Nat → Option Nat} (hc : c < 6) (hag : P 8 c = nI (ag c)) (hb : b < 6) (hon : on ≤ 6) (hoff : off ≤ 5) (hpl : ∀ b, b < 6 → P 9 b = pl_c (pl b)) (hpo : ∀ b l, b < 6 → pl b = some l → l < T.1) : mm_Ct 8 M_Sp_ownedBehind [.ref 1, .int (nI b), .int (nI c), .int (nI on), .int (nI off)] (hp_SH ++ dy, g, r) 0 0 (fun v h' => v = some (.int (nI (sp_has T (sp_run T (sp_H C ag c) pl on off (b + 1)).2 b))) ∧ ∃ g', h' = (hp_SH ++ dy, g', r) ∧ fr_ f1_ g g') := by
  refine mm_start pl_Sp (Nat.le_of_ble_eq_true rfl) ?_
  refine mm_B ok_Sp_ownedBehind 0 6 (7, [some (.ref 1), some (.int (nI b)), some (.int (nI c)), some (.int (nI on)), some (.int (nI off))], [.int (nI b), .int (nI off), .int (nI on), .int (nI c), .ref 1, .ref 1], (hp_SH ++ dy, g, r)) [] rfl trivial ?_
  refine mm_min lk_Sp_102 (mm_at ok_Sp_ownedBehind (i := 6) rfl).1 (by decide) ⟨Nat.le_refl _, Nat.le_refl _⟩ (Nat.le_of_ble_eq_true rfl) ?_
  rw [nI_mn off b (by omega) (by omega)]
  refine mm_B ok_Sp_ownedBehind 7 3 (17, [some (.ref 1), some (.int (nI b)), some (.int (nI c)), some (.int (nI on)), some (.int (nI off))], [.ref 9, .int (nI (min off b)), .int (nI on), .int (nI c), .ref 1, .ref 1], (hp_SH ++ dy, g, r)) [] rfl trivial ?_
  refine mm_cV (as := [.int (nI c), .int (nI on), .int (nI (min off b)), .ref 9]) (st := [.ref 1]) (q := 1) cw_Sp_memoryOf lk_Sp_144 in_Sp_memoryOf sl_Sp_memoryOf rfl rfl (mm_at ok_Sp_ownedBehind (i := 10) rfl).1 (ct_Sp_memoryOf dy g P r hP hR hL hc hag hon (by omega) rfl (fun _ => rfl) (fun b hb => by rw [nr_at hP 9 b rfl]; exact hpl b hb) hpo) (by decide) ⟨by omega, by omega⟩ (Nat.le_of_ble_eq_true rfl) (mm_vs_b (b := 77) rfl (hp_len dy)) (fun v h' hqq => ?_)
  obtain ⟨rfl, g1, hqe, hF1⟩ := hqq; rw [hqe, sp_run_beh (by omega)]
  refine mm_B ok_Sp_ownedBehind 11 1 (21, [some (.ref 1), some (.int (nI b)), some (.int (nI c)), some (.int (nI on)), some (.int (nI off))], [.int (nI b), .int (nI (sp_enc (sp_run T (sp_H C ag c) pl on off (b + 1)))), .ref 1], (hp_SH ++ dy, g1, r)) [] rfl trivial ?_
  refine mm_cV (as := [.int (nI (sp_enc (sp_run T (sp_H C ag c) pl on off (b + 1)))), .int (nI b)]) (st := []) (q := 1) cw_Sp_owned lk_Sp_117 in_Sp_owned sl_Sp_owned rfl rfl (mm_at ok_Sp_ownedBehind (i := 12) rfl).1 (ct_Sp_owned dy g1 P r (hF1.nr f1_nr hP) hL (sp_run_ok _ _ _ _ _ (by omega)) hb (fun i hi => (sp_run_le _ _ _ _ _ (b + 1) i (by have := hL.2.1; omega)).2)) (by decide) ⟨by omega, by omega⟩ (Nat.le_of_ble_eq_true rfl) (mm_vs_b (b := 77) rfl (hp_len dy)) (fun v h' hqq => ?_)
  obtain ⟨rfl, hqe⟩ := hqq; rw [hqe]
  exact mm_ri rfl (mm_at ok_Sp_ownedBehind (i := 13) rfl).1 ⟨Nat.le_refl _, Nat.le_refl _⟩ (⟨rfl, g1, rfl, hF1⟩)
def sp_sum (f : Nat → Nat) : Nat → Nat
  | 0 => 0
  | n + 1 => sp_sum f n + f n
/-- a child's points by what it carries at the end -/
def sp_pt (T : sp_T) (W : Nat → Nat → Nat → Int32) (cs : sp_C) (l : Nat) : Nat := if sp_has T cs.2 5 / 2 ^ l % 2 = 0 then 0 else sp_gn (sp_value T l) (W l (sp_pc (sp_has T cs.2 5)) (cs.1 l))
theorem po_go (dy : List mm_Sh) (g P : Nat → Nat → Int32) (r : (Nat → Nat → Int64) × Nat × (Nat → Int32)) (hP : nr_ g = P) {C : Nat → List Int32} (hR : rt_R dy P C) {T : sp_T} (hL : rl_L T P) {ag : Nat → Nat} {c : Nat} {cs : sp_C} {pa : Nat} (hc : c < 6) (hag : P 8 c = nI (ag c)) (hok : sp_ok cs) (hplt : pa < (hp_SH ++ dy).length) : ∀ (m k : Nat) (g1 : Nat → Nat → Int32), k + m = T.1 → fr_ f1_ g g1 → mm_W 8 M_Sp_pointsOf 0 0 (fun v h' => v = some (.int (nI (sp_sum (sp_pt T (sp_W C ag c) cs) T.1))) ∧ ∃ g', h' = (hp_SH ++ dy, g', r) ∧ fr_ f1_ g g') 0 0 (39, [some (.ref 1), some (.int (nI c)), some (.ref pa), some (.int (nI (sp_enc cs))), some (.int (nI (sp_has T cs.2 5))), some (.int (nI (sp_sum (sp_pt T (sp_W C ag c) cs) k))), some (.int (nI k))], [], (hp_SH ++ dy, g1, r)) := by
  have h4 := hL.2.1
  have hh := sp_has_lt T cs.2 5 h4
  intro m
  induction m with
  | zero =>
    intro k g1 hk hF
    have e20 : g1 2 0 = nI T.1 := by rw [nr_at (hF.nr f1_nr hP) 2 0 rfl]; exact hL.1
    refine mm_B ok_Sp_pointsOf 24 4 (48, [some (.ref 1), some (.int (nI c)), some (.ref pa), some (.int (nI (sp_enc cs))), some (.int (nI (sp_has T cs.2 5))), some (.int (nI (sp_sum (sp_pt T (sp_W C ag c) cs) k))), some (.int (nI k))], [.int (g1 2 0), .int (nI k)], (hp_SH ++ dy, g1, r)) [] rfl trivial ?_
    rw [e20]
    refine mm_I ok_Sp_pointsOf 28 0 48 [some (.ref 1), some (.int (nI c)), some (.ref pa), some (.int (nI (sp_enc cs))), some (.int (nI (sp_has T cs.2 5))), some (.int (nI (sp_sum (sp_pt T (sp_W C ag c) cs) k))), some (.int (nI k))] [.int (nI T.1), .int (nI k)] (hp_SH ++ dy, g1, r) [] rfl trivial rfl rfl (fun _ => ?_) (fun q => False.elim (q (nI_le (by omega) (by omega))))
    refine mm_B ok_Sp_pointsOf 49 1 (92, [some (.ref 1), some (.int (nI c)), some (.ref pa), some (.int (nI (sp_enc cs))), some (.int (nI (sp_has T cs.2 5))), some (.int (nI (sp_sum (sp_pt T (sp_W C ag c) cs) k))), some (.int (nI k))], [.int (nI (sp_sum (sp_pt T (sp_W C ag c) cs) k))], (hp_SH ++ dy, g1, r)) [] rfl trivial ?_
    exact mm_ri rfl (mm_at ok_Sp_pointsOf (i := 50) rfl).1 ⟨Nat.le_refl _, Nat.le_refl _⟩ (⟨by rw [show k = T.1 by omega], g1, rfl, hF⟩)
  | succ m ih =>
    intro k g1 hk hF
    have hkL : k < T.1 := by omega
    have hk4 : k < 4 := by omega
    have hP1 := hF.nr f1_nr hP
    have e20 : g1 2 0 = nI T.1 := by rw [nr_at hP1 2 0 rfl]; exact hL.1
    refine mm_B ok_Sp_pointsOf 24 4 (48, [some (.ref 1), some (.int (nI c)), some (.ref pa), some (.int (nI (sp_enc cs))), some (.int (nI (sp_has T cs.2 5))), some (.int (nI (sp_sum (sp_pt T (sp_W C ag c) cs) k))), some (.int (nI k))], [.int (g1 2 0), .int (nI k)], (hp_SH ++ dy, g1, r)) [] rfl trivial ?_
    rw [e20]
    refine mm_I ok_Sp_pointsOf 28 0 48 [some (.ref 1), some (.int (nI c)), some (.ref pa), some (.int (nI (sp_enc cs))), some (.int (nI (sp_has T cs.2 5))), some (.int (nI (sp_sum (sp_pt T (sp_W C ag c) cs) k))), some (.int (nI k))] [.int (nI T.1), .int (nI k)] (hp_SH ++ dy, g1, r) [] rfl trivial rfl rfl (fun q => False.elim (nI_ge hkL (by omega) q)) (fun _ => ?_)
    refine mm_B ok_Sp_pointsOf 29 5 (58, [some (.ref 1), some (.int (nI c)), some (.ref pa), some (.int (nI (sp_enc cs))), some (.int (nI (sp_has T cs.2 5))), some (.int (nI (sp_sum (sp_pt T (sp_W C ag c) cs) k))), some (.int (nI k))], [.int (((nI (sp_has T cs.2 5)) >>> ((nI k) &&& 31)) &&& 1)], (hp_SH ++ dy, g1, r)) [] rfl trivial ?_
    rw [bt_tst _ hh _ hk4]
    refine mm_I ok_Sp_pointsOf 34 0 58 [some (.ref 1), some (.int (nI c)), some (.ref pa), some (.int (nI (sp_enc cs))), some (.int (nI (sp_has T cs.2 5))), some (.int (nI (sp_sum (sp_pt T (sp_W C ag c) cs) k))), some (.int (nI k))] [.int (nI (sp_has T cs.2 5 / 2 ^ k % 2))] (hp_SH ++ dy, g1, r) [] rfl trivial rfl rfl (fun hz => ?_) (fun hz => ?_)
    · have hz : sp_has T cs.2 5 / 2 ^ k % 2 = 0 := by
        rcases Nat.eq_zero_or_pos (sp_has T cs.2 5 / 2 ^ k % 2) with h | h
        · exact h
        · exact absurd hz (nI_ne0 h (by omega))
      refine mm_B ok_Sp_pointsOf 47 2 (39, [some (.ref 1), some (.int (nI c)), some (.ref pa), some (.int (nI (sp_enc cs))), some (.int (nI (sp_has T cs.2 5))), some (.int (nI (sp_sum (sp_pt T (sp_W C ag c) cs) k))), some (.int ((nI k) + 1))], [], (hp_SH ++ dy, g1, r)) [] rfl trivial ?_
      rw [nI_1]
      have hn : sp_sum (sp_pt T (sp_W C ag c) cs) (k + 1) = sp_sum (sp_pt T (sp_W C ag c) cs) k := by simp only [sp_sum, sp_pt]; rw [if_pos hz]; omega
      have h8 := ih (k + 1) g1 (by omega) hF
      rw [hn] at h8
      exact h8
    · have hz : ¬ sp_has T cs.2 5 / 2 ^ k % 2 = 0 := fun q => hz (by rw [q]; rfl)
      refine mm_B ok_Sp_pointsOf 35 5 (69, [some (.ref 1), some (.int (nI c)), some (.ref pa), some (.int (nI (sp_enc cs))), some (.int (nI (sp_has T cs.2 5))), some (.int (nI (sp_sum (sp_pt T (sp_W C ag c) cs) k))), some (.int (nI k))], [.int (nI (sp_has T cs.2 5)), .int (nI k), .int (nI c), .ref 1, .int (nI (sp_sum (sp_pt T (sp_W C ag c) cs) k))], (hp_SH ++ dy, g1, r)) [] rfl trivial ?_
      refine mm_cS (as := [.int (nI (sp_has T cs.2 5))]) (st := [.int (nI k), .int (nI c), .ref 1, .int (nI (sp_sum (sp_pt T (sp_W C ag c) cs) k))]) cw_In_bitCount lk_Sp_129 sx_In_bitCount (mm_at ok_Sp_pointsOf (i := 40) rfl).1 (ct_In_bitCount (hp_SH ++ dy, g1, r) (nI (sp_has T cs.2 5))) (by decide) ⟨by omega, by omega⟩ (Nat.le_of_ble_eq_true rfl) ⟨fun k hk => by simp only [List.mem_cons, Option.some.injEq, Value.ref.injEq, reduceCtorEq, List.not_mem_nil, or_false, false_or] at hk; rcases hk with rfl | rfl <;> first | exact hplt | exact Nat.lt_of_lt_of_le (by decide) (hp_len dy), (mm_vs_b (b := 77) (lv := []) rfl (hp_len dy)).2⟩ (fun v h' hqq => ?_)
      obtain ⟨rfl, hqe⟩ := hqq; rw [hqe, pc_bc _ hh]
      refine mm_B ok_Sp_pointsOf 41 2 (75, [some (.ref 1), some (.int (nI c)), some (.ref pa), some (.int (nI (sp_enc cs))), some (.int (nI (sp_has T cs.2 5))), some (.int (nI (sp_sum (sp_pt T (sp_W C ag c) cs) k))), some (.int (nI k))], [.int (nI k), .int (nI (sp_enc cs)), .int (nI (sp_pc (sp_has T cs.2 5))), .int (nI k), .int (nI c), .ref 1, .int (nI (sp_sum (sp_pt T (sp_W C ag c) cs) k))], (hp_SH ++ dy, g1, r)) [] rfl trivial ?_
      refine mm_cS (as := [.int (nI (sp_enc cs)), .int (nI k)]) (st := [.int (nI (sp_pc (sp_has T cs.2 5))), .int (nI k), .int (nI c), .ref 1, .int (nI (sp_sum (sp_pt T (sp_W C ag c) cs) k))]) cw_Sp_timesHeard lk_Sp_123 sx_Sp_timesHeard (mm_at ok_Sp_pointsOf (i := 43) rfl).1 (ct_Sp_timesHeard (hp_SH ++ dy, g1, r) (nI (sp_enc cs)) (nI k)) (by decide) ⟨by omega, by omega⟩ (Nat.le_of_ble_eq_true rfl) ⟨fun k hk => by simp only [List.mem_cons, Option.some.injEq, Value.ref.injEq, reduceCtorEq, List.not_mem_nil, or_false, false_or] at hk; rcases hk with rfl | rfl <;> first | exact hplt | exact Nat.lt_of_lt_of_le (by decide) (hp_len dy), (mm_vs_b (b := 77) (lv := []) rfl (hp_len dy)).2⟩ (fun v h' hqq => ?_)
      obtain ⟨rfl, hqe⟩ := hqq; rw [hqe, me_times hok hk4]
      refine mm_cV (as := [.int (nI c), .int (nI k), .int (nI (sp_pc (sp_has T cs.2 5))), .int (nI (cs.1 k))]) (st := [.int (nI (sp_sum (sp_pt T (sp_W C ag c) cs) k))]) (q := 1) cw_Sp_gain lk_Sp_154 in_Sp_gain sl_Sp_gain rfl rfl (mm_at ok_Sp_pointsOf (i := 44) rfl).1 (ct_Sp_gain dy g1 P r hP1 hR hL hc hag hkL (k := sp_pc (sp_has T cs.2 5)) (o := cs.1 k)) (by decide) ⟨by omega, by omega⟩ (Nat.le_of_ble_eq_true rfl) ⟨fun k hk => by simp only [List.mem_cons, Option.some.injEq, Value.ref.injEq, reduceCtorEq, List.not_mem_nil, or_false, false_or] at hk; rcases hk with rfl | rfl <;> first | exact hplt | exact Nat.lt_of_lt_of_le (by decide) (hp_len dy), (mm_vs_b (b := 77) (lv := []) rfl (hp_len dy)).2⟩ (fun v h' hqq => ?_)
      obtain ⟨rfl, g2, hqe, hF2⟩ := hqq; rw [hqe]
      refine mm_B ok_Sp_pointsOf 45 4 (39, [some (.ref 1), some (.int (nI c)), some (.ref pa), some (.int (nI (sp_enc cs))), some (.int (nI (sp_has T cs.2 5))), some (.int ((nI (sp_sum (sp_pt T (sp_W C ag c) cs) k)) + (nI (sp_gn (sp_value T k) (sp_W C ag c k (sp_pc (sp_has T cs.2 5)) (cs.1 k)))))), some (.int ((nI k) + 1))], [], (hp_SH ++ dy, g2, r)) [] rfl trivial ?_
      rw [nI_1, nI_add]
      have hn : sp_sum (sp_pt T (sp_W C ag c) cs) (k + 1) = sp_sum (sp_pt T (sp_W C ag c) cs) k + sp_gn (sp_value T k) (sp_W C ag c k (sp_pc (sp_has T cs.2 5)) (cs.1 k)) := by simp only [sp_sum, sp_pt]; rw [if_neg hz]
      have h8 := ih (k + 1) g2 (by omega) (hF.tr hF2)
      rw [hn] at h8
      exact h8
/-- a child's points by a plan -/
noncomputable def sp_pts (T : sp_T) (C : Nat → List Int32) (K : sp_K) (pl : Nat → Option Nat) (c : Nat) : Nat := sp_sum (sp_pt T (sp_W C K.2.2.2 c) (sp_run T (sp_H C K.2.2.2 c) pl (K.2.1 c) (K.2.2.1 c) 6)) T.1
theorem ct_Sp_pointsOf (dy : List mm_Sh) (g P : Nat → Nat → Int32) (r : (Nat → Nat → Int64) × Nat × (Nat → Int32)) (hP : nr_ g = P) {C : Nat → List Int32} (hR : rt_R dy P C) {T : sp_T} (hL : rl_L T P) {K : sp_K} {c : Nat} (hK : rl_C K P) (hc : c < K.1) {pa : Nat} {pl : Nat → Option Nat} (hpa : (hp_SH ++ dy)[pa]? = some (.inl (0, 6))) (hpf : ∀ j, f1_ pa j = false) (hpl : ∀ b, b < 6 → g pa b = pl_c (pl b)) (hpo : ∀ b l, b < 6 → pl b = some l → l < T.1) : mm_Ct 8 M_Sp_pointsOf [.ref 1, .int (nI c), .ref pa] (hp_SH ++ dy, g, r) 0 0 (fun v h' => v = some (.int (nI (sp_pts T C K pl c))) ∧ ∃ g', h' = (hp_SH ++ dy, g', r) ∧ fr_ f1_ g g') := by
  obtain ⟨h21, h6, hcs⟩ := hK
  obtain ⟨h6c, h7c, hle, hoff, hag⟩ := hcs c hc
  have hplt : pa < (hp_SH ++ dy).length := (List.getElem?_eq_some_iff.mp hpa).1
  have e6 : g 6 (nI c).toNatClampNeg = nI (K.2.1 c) := by rw [nI_clamp (by omega), nr_at hP 6 c rfl]; exact h6c
  have e7 : g 7 (nI c).toNatClampNeg = nI (K.2.2.1 c) := by rw [nI_clamp (by omega), nr_at hP 7 c rfl]; exact h7c
  refine mm_start pl_Sp (Nat.le_of_ble_eq_true rfl) ?_
  refine mm_B ok_Sp_pointsOf 0 13 (21, [some (.ref 1), some (.int (nI c)), some (.ref pa), none, none, none, none], [.ref pa, .int (g 7 ((nI c).toNatClampNeg)), .int (g 6 ((nI c).toNatClampNeg)), .int (nI c), .ref 1], (hp_SH ++ dy, g, r)) [vp_in (nI c) 6, vp_in (nI c) 6] rfl (show (vp_in (nI c) 6) ∧ (vp_in (nI c) 6) from ⟨(nI_vi (by omega) (by decide)), (nI_vi (by omega) (by decide))⟩) ?_
  rw [e6]
  rw [e7]
  refine mm_cV (as := [.int (nI c), .int (nI (K.2.1 c)), .int (nI (K.2.2.1 c)), .ref pa]) (st := []) (q := 1) cw_Sp_memoryOf lk_Sp_144 in_Sp_memoryOf sl_Sp_memoryOf rfl rfl (mm_at ok_Sp_pointsOf (i := 13) rfl).1 (ct_Sp_memoryOf dy g P r hP hR hL (by omega) hag (by omega) hoff hpa hpf hpl hpo) (by decide) ⟨by omega, by omega⟩ (Nat.le_of_ble_eq_true rfl) ⟨fun k hk => by simp only [List.mem_cons, Option.some.injEq, Value.ref.injEq, reduceCtorEq, List.not_mem_nil, or_false, false_or] at hk; rcases hk with rfl | rfl <;> first | exact hplt | exact Nat.lt_of_lt_of_le (by decide) (hp_len dy), (mm_vs_b (b := 77) (lv := []) rfl (hp_len dy)).2⟩ (fun v h' hqq => ?_)
  obtain ⟨rfl, g1, hqe, hF1⟩ := hqq; rw [hqe]
  obtain ⟨cs, hcs⟩ : ∃ cs, cs = sp_run T (sp_H C K.2.2.2 c) pl (K.2.1 c) (K.2.2.1 c) 6 := ⟨_, rfl⟩
  have hok : sp_ok cs := by rw [hcs]; exact sp_run_ok _ _ _ _ _ (Nat.le_refl _)
  have hle6 : ∀ l, l < T.1 → cs.2 l ≤ 5 + 1 := fun l hl => by rw [hcs]; exact (sp_run_le _ _ _ _ _ 6 l (by have := hL.2.1; omega)).2
  have ept : sp_pts T C K pl c = sp_sum (sp_pt T (sp_W C K.2.2.2 c) cs) T.1 := by unfold sp_pts; rw [hcs]
  rw [← hcs, ept]
  have hP1 := hF1.nr f1_nr hP
  refine mm_B ok_Sp_pointsOf 14 4 (28, [some (.ref 1), some (.int (nI c)), some (.ref pa), some (.int (nI (sp_enc cs))), none, none, none], [.int 5, .int (nI (sp_enc cs)), .ref 1], (hp_SH ++ dy, g1, r)) [] rfl trivial ?_
  refine mm_cV (as := [.int (nI (sp_enc cs)), .int 5]) (st := []) (q := 1) cw_Sp_owned lk_Sp_117 in_Sp_owned sl_Sp_owned rfl rfl (mm_at ok_Sp_pointsOf (i := 18) rfl).1 (ct_Sp_owned dy g1 P r hP1 hL hok (b := 5) (by decide) hle6) (by decide) ⟨by omega, by omega⟩ (Nat.le_of_ble_eq_true rfl) ⟨fun k hk => by simp only [List.mem_cons, Option.some.injEq, Value.ref.injEq, reduceCtorEq, List.not_mem_nil, or_false, false_or] at hk; rcases hk with rfl | rfl <;> first | exact hplt | exact Nat.lt_of_lt_of_le (by decide) (hp_len dy), (mm_vs_b (b := 77) (lv := []) rfl (hp_len dy)).2⟩ (fun v h' hqq => ?_)
  obtain ⟨rfl, hqe⟩ := hqq; rw [hqe]
  refine mm_B ok_Sp_pointsOf 19 5 (39, [some (.ref 1), some (.int (nI c)), some (.ref pa), some (.int (nI (sp_enc cs))), some (.int (nI (sp_has T cs.2 5))), some (.int 0), some (.int 0)], [], (hp_SH ++ dy, g1, r)) [] rfl trivial ?_
  have h8 := po_go dy g P r hP hR hL (by omega) hag hok hplt T.1 0 g1 (by omega) hF1
  exact h8
end
section
/-! ===== SchoolOnRaft: parts of the answers ===== -/
noncomputable def sp_all (T : sp_T) (C : Nat → List Int32) (K : sp_K) (pl : Nat → Option Nat) : Nat := sp_sum (sp_pts T C K pl) K.1
noncomputable def sp_end (T : sp_T) (C : Nat → List Int32) (K : sp_K) (pl : Nat → Option Nat) (c : Nat) : Nat := sp_has T (sp_run T (sp_H C K.2.2.2 c) pl (K.2.1 c) (K.2.2.1 c) 6).2 5
theorem pa_go (dy : List mm_Sh) (g P : Nat → Nat → Int32) (r : (Nat → Nat → Int64) × Nat × (Nat → Int32)) (hP : nr_ g = P) {C : Nat → List Int32} (hR : rt_R dy P C) {T : sp_T} (hL : rl_L T P) {K : sp_K} (hK : rl_C K P) {pa : Nat} {pl : Nat → Option Nat} (hpa : (hp_SH ++ dy)[pa]? = some (.inl (0, 6))) (hpf : ∀ j, f1_ pa j = false) (hpl : ∀ b, b < 6 → g pa b = pl_c (pl b)) (hpo : ∀ b l, b < 6 → pl b = some l → l < T.1) : ∀ (m k : Nat) (g1 : Nat → Nat → Int32), k + m = K.1 → fr_ f1_ g g1 → mm_W 9 M_Sc_pointsOfAll 0 0 (fun v h' => v = some (.int (nI (sp_all T C K pl))) ∧ ∃ g', h' = (hp_SH ++ dy, g', r) ∧ fr_ f1_ g g') 0 0 (4, [some (.ref 0), some (.ref pa), some (.int (nI (sp_sum (sp_pts T C K pl) k))), some (.int (nI k))], [], (hp_SH ++ dy, g1, r)) := by
  have h6 := hK.2.1
  have hplt : pa < (hp_SH ++ dy).length := (List.getElem?_eq_some_iff.mp hpa).1
  intro m
  induction m with
  | zero =>
    intro k g1 hk hF
    have e21 : g1 2 1 = nI K.1 := by rw [nr_at (hF.nr f1_nr hP) 2 1 rfl]; exact hK.1
    refine mm_B ok_Sc_pointsOfAll 4 5 (15, [some (.ref 0), some (.ref pa), some (.int (nI (sp_sum (sp_pts T C K pl) k))), some (.int (nI k))], [.int (g1 2 1), .int (nI k)], (hp_SH ++ dy, g1, r)) [] rfl trivial ?_
    rw [e21]
    refine mm_I ok_Sc_pointsOfAll 9 0 15 [some (.ref 0), some (.ref pa), some (.int (nI (sp_sum (sp_pts T C K pl) k))), some (.int (nI k))] [.int (nI K.1), .int (nI k)] (hp_SH ++ dy, g1, r) [] rfl trivial rfl rfl (fun _ => ?_) (fun q => False.elim (q (nI_le (by omega) (by omega))))
    refine mm_B ok_Sc_pointsOfAll 20 1 (37, [some (.ref 0), some (.ref pa), some (.int (nI (sp_sum (sp_pts T C K pl) k))), some (.int (nI k))], [.int (nI (sp_sum (sp_pts T C K pl) k))], (hp_SH ++ dy, g1, r)) [] rfl trivial ?_
    exact mm_ri rfl (mm_at ok_Sc_pointsOfAll (i := 21) rfl).1 ⟨Nat.le_refl _, Nat.le_refl _⟩ (⟨by rw [show k = K.1 by omega]; rfl, g1, rfl, hF⟩)
  | succ m ih =>
    intro k g1 hk hF
    have hP1 := hF.nr f1_nr hP
    have e21 : g1 2 1 = nI K.1 := by rw [nr_at hP1 2 1 rfl]; exact hK.1
    refine mm_B ok_Sc_pointsOfAll 4 5 (15, [some (.ref 0), some (.ref pa), some (.int (nI (sp_sum (sp_pts T C K pl) k))), some (.int (nI k))], [.int (g1 2 1), .int (nI k)], (hp_SH ++ dy, g1, r)) [] rfl trivial ?_
    rw [e21]
    refine mm_I ok_Sc_pointsOfAll 9 0 15 [some (.ref 0), some (.ref pa), some (.int (nI (sp_sum (sp_pts T C K pl) k))), some (.int (nI k))] [.int (nI K.1), .int (nI k)] (hp_SH ++ dy, g1, r) [] rfl trivial rfl rfl (fun q => False.elim (nI_ge (show k < K.1 by omega) (by omega) q)) (fun _ => ?_)
    refine mm_B ok_Sc_pointsOfAll 10 5 (25, [some (.ref 0), some (.ref pa), some (.int (nI (sp_sum (sp_pts T C K pl) k))), some (.int (nI k))], [.ref pa, .int (nI k), .ref 1, .int (nI (sp_sum (sp_pts T C K pl) k))], (hp_SH ++ dy, g1, r)) [] rfl trivial ?_
    refine mm_cV (as := [.int (nI k), .ref pa]) (st := [.int (nI (sp_sum (sp_pts T C K pl) k))]) (q := 1) cw_Sp_pointsOf lk_Sc_192 in_Sp_pointsOf sl_Sp_pointsOf rfl rfl (mm_at ok_Sc_pointsOfAll (i := 15) rfl).1 (ct_Sp_pointsOf dy g1 P r hP1 hR hL hK (by omega) hpa hpf (fun b hb => by rw [hF pa b (hpf b)]; exact hpl b hb) hpo) (by decide) ⟨by omega, by omega⟩ (Nat.le_of_ble_eq_true rfl) ⟨fun k hk => by simp only [List.mem_cons, Option.some.injEq, Value.ref.injEq, reduceCtorEq, List.not_mem_nil, or_false, false_or] at hk; rcases hk with rfl | rfl <;> first | exact hplt | exact Nat.lt_of_lt_of_le (by decide) (hp_len dy), (mm_vs_b (b := 77) (lv := []) rfl (hp_len dy)).2⟩ (fun v h' hqq => ?_)
    obtain ⟨rfl, g2, hqe, hF2⟩ := hqq; rw [hqe]
    refine mm_B ok_Sc_pointsOfAll 16 4 (4, [some (.ref 0), some (.ref pa), some (.int ((nI (sp_sum (sp_pts T C K pl) k)) + (nI (sp_pts T C K pl k)))), some (.int ((nI k) + 1))], [], (hp_SH ++ dy, g2, r)) [] rfl trivial ?_
    rw [nI_1, nI_add]
    exact ih (k + 1) g2 (by omega) (hF.tr hF2)
theorem ct_Sc_pointsOfAll (dy : List mm_Sh) (g P : Nat → Nat → Int32) (r : (Nat → Nat → Int64) × Nat × (Nat → Int32)) (hP : nr_ g = P) {C : Nat → List Int32} (hR : rt_R dy P C) {T : sp_T} (hL : rl_L T P) {K : sp_K} (hK : rl_C K P) {pa : Nat} {pl : Nat → Option Nat} (hpa : (hp_SH ++ dy)[pa]? = some (.inl (0, 6))) (hpf : ∀ j, f1_ pa j = false) (hpl : ∀ b, b < 6 → g pa b = pl_c (pl b)) (hpo : ∀ b l, b < 6 → pl b = some l → l < T.1) : mm_Ct 9 M_Sc_pointsOfAll [.ref 0, .ref pa] (hp_SH ++ dy, g, r) 0 0 (fun v h' => v = some (.int (nI (sp_all T C K pl))) ∧ ∃ g', h' = (hp_SH ++ dy, g', r) ∧ fr_ f1_ g g') := by
  refine mm_start pl_Sc (Nat.le_of_ble_eq_true rfl) ?_
  refine mm_B ok_Sc_pointsOfAll 0 4 (4, [some (.ref 0), some (.ref pa), some (.int 0), some (.int 0)], [], (hp_SH ++ dy, g, r)) [] rfl trivial ?_
  exact pa_go dy g P r hP hR hL hK hpa hpf hpl hpo K.1 0 g (by omega) fr_.rf
theorem ct_Sc_ownedAtEnd (dy : List mm_Sh) (g P : Nat → Nat → Int32) (r : (Nat → Nat → Int64) × Nat × (Nat → Int32)) (hP : nr_ g = P) {C : Nat → List Int32} (hR : rt_R dy P C) {T : sp_T} (hL : rl_L T P) {K : sp_K} {c : Nat} (hK : rl_C K P) (hc : c < K.1) {pa : Nat} {pl : Nat → Option Nat} (hpa : (hp_SH ++ dy)[pa]? = some (.inl (0, 6))) (hpf : ∀ j, f1_ pa j = false) (hpl : ∀ b, b < 6 → g pa b = pl_c (pl b)) (hpo : ∀ b l, b < 6 → pl b = some l → l < T.1) : mm_Ct 8 M_Sc_ownedAtEnd [.ref 0, .int (nI c), .ref pa] (hp_SH ++ dy, g, r) 0 0 (fun v h' => v = some (.int (nI (sp_end T C K pl c))) ∧ ∃ g', h' = (hp_SH ++ dy, g', r) ∧ fr_ f1_ g g') := by
  obtain ⟨h21, h6, hcs⟩ := hK
  obtain ⟨h6c, h7c, hle, hoff, hag⟩ := hcs c hc
  have hplt : pa < (hp_SH ++ dy).length := (List.getElem?_eq_some_iff.mp hpa).1
  have e6 : g 6 (nI c).toNatClampNeg = nI (K.2.1 c) := by rw [nI_clamp (by omega), nr_at hP 6 c rfl]; exact h6c
  have e7 : g 7 (nI c).toNatClampNeg = nI (K.2.2.1 c) := by rw [nI_clamp (by omega), nr_at hP 7 c rfl]; exact h7c
  refine mm_start pl_Sc (Nat.le_of_ble_eq_true rfl) ?_
  refine mm_B ok_Sc_ownedAtEnd 0 16 (30, [some (.ref 0), some (.int (nI c)), some (.ref pa), none], [.ref pa, .int (g 7 ((nI c).toNatClampNeg)), .int (g 6 ((nI c).toNatClampNeg)), .int (nI c), .ref 1], (hp_SH ++ dy, g, r)) [vp_in (nI c) 6, vp_in (nI c) 6] rfl (show (vp_in (nI c) 6) ∧ (vp_in (nI c) 6) from ⟨(nI_vi (by omega) (by decide)), (nI_vi (by omega) (by decide))⟩) ?_
  rw [e6]
  rw [e7]
  refine mm_cV (as := [.int (nI c), .int (nI (K.2.1 c)), .int (nI (K.2.2.1 c)), .ref pa]) (st := []) (q := 1) cw_Sp_memoryOf lk_Sc_178 in_Sp_memoryOf sl_Sp_memoryOf rfl rfl (mm_at ok_Sc_ownedAtEnd (i := 16) rfl).1 (ct_Sp_memoryOf dy g P r hP hR hL (by omega) hag (by omega) hoff hpa hpf hpl hpo) (by decide) ⟨by omega, by omega⟩ (Nat.le_of_ble_eq_true rfl) ⟨fun k hk => by simp only [List.mem_cons, Option.some.injEq, Value.ref.injEq, reduceCtorEq, List.not_mem_nil, or_false, false_or] at hk; rcases hk with rfl | rfl <;> first | exact hplt | exact Nat.lt_of_lt_of_le (by decide) (hp_len dy), (mm_vs_b (b := 77) (lv := []) rfl (hp_len dy)).2⟩ (fun v h' hqq => ?_)
  obtain ⟨rfl, g1, hqe, hF1⟩ := hqq; rw [hqe]
  refine mm_B ok_Sc_ownedAtEnd 17 5 (40, [some (.ref 0), some (.int (nI c)), some (.ref pa), some (.int (nI (sp_enc (sp_run T (sp_H C K.2.2.2 c) pl (K.2.1 c) (K.2.2.1 c) 6))))], [.int 5, .int (nI (sp_enc (sp_run T (sp_H C K.2.2.2 c) pl (K.2.1 c) (K.2.2.1 c) 6))), .ref 1], (hp_SH ++ dy, g1, r)) [] rfl trivial ?_
  refine mm_cV (as := [.int (nI (sp_enc (sp_run T (sp_H C K.2.2.2 c) pl (K.2.1 c) (K.2.2.1 c) 6))), .int 5]) (st := []) (q := 1) cw_Sp_owned lk_Sc_212 in_Sp_owned sl_Sp_owned rfl rfl (mm_at ok_Sc_ownedAtEnd (i := 22) rfl).1 (ct_Sp_owned dy g1 P r (hF1.nr f1_nr hP) hL (sp_run_ok _ _ _ _ _ (Nat.le_refl _)) (b := 5) (by decide) (fun l hl => (sp_run_le _ _ _ _ _ 6 l (by have := hL.2.1; omega)).2)) (by decide) ⟨by omega, by omega⟩ (Nat.le_of_ble_eq_true rfl) ⟨fun k hk => by simp only [List.mem_cons, Option.some.injEq, Value.ref.injEq, reduceCtorEq, List.not_mem_nil, or_false, false_or] at hk; rcases hk with rfl | rfl <;> first | exact hplt | exact Nat.lt_of_lt_of_le (by decide) (hp_len dy), (mm_vs_b (b := 77) (lv := []) rfl (hp_len dy)).2⟩ (fun v h' hqq => ?_)
  obtain ⟨rfl, hqe⟩ := hqq; rw [hqe]
  exact mm_ri rfl (mm_at ok_Sc_ownedAtEnd (i := 23) rfl).1 ⟨Nat.le_refl _, Nat.le_refl _⟩ (⟨rfl, g1, rfl, hF1⟩)
/-- who has a lesson at the end, as bits -/
noncomputable def sp_whb (T : sp_T) (C : Nat → List Int32) (K : sp_K) (pl : Nat → Option Nat) (l c : Nat) : Nat := if sp_end T C K pl c / 2 ^ l % 2 = 0 then 0 else 2 ^ c
theorem bt_bit6 : ∀ n, n < 6 → ∀ m, m < 2 ^ n → nI m ||| (1 <<< (nI n &&& 31)) = nI (m + 2 ^ n) := by decide
theorem sp_sum_lt (f : Nat → Nat) (hf : ∀ c, f c = 0 ∨ f c = 2 ^ c) : ∀ n, sp_sum f n < 2 ^ n
  | 0 => by simp [sp_sum]
  | n + 1 => by
    have := sp_sum_lt f hf n
    simp only [sp_sum]
    have h2 : 2 ^ (n + 1) = 2 ^ n + 2 ^ n := by rw [Nat.pow_succ]; omega
    rcases hf n with h | h <;> omega
theorem sp_whb_or {T : sp_T} {C : Nat → List Int32} {K : sp_K} {pl : Nat → Option Nat} {l : Nat} : ∀ c, sp_whb T C K pl l c = 0 ∨ sp_whb T C K pl l c = 2 ^ c := by
  intro c
  unfold sp_whb
  split
  · exact Or.inl rfl
  · exact Or.inr rfl
theorem wh_go (dy : List mm_Sh) (g P : Nat → Nat → Int32) (r : (Nat → Nat → Int64) × Nat × (Nat → Int32)) (hP : nr_ g = P) {C : Nat → List Int32} (hR : rt_R dy P C) {T : sp_T} (hL : rl_L T P) {K : sp_K} {l : Nat} (hK : rl_C K P) (hl : l < T.1) {pa : Nat} {pl : Nat → Option Nat} (hpa : (hp_SH ++ dy)[pa]? = some (.inl (0, 6))) (hpf : ∀ j, f1_ pa j = false) (hpl : ∀ b, b < 6 → g pa b = pl_c (pl b)) (hpo : ∀ b l, b < 6 → pl b = some l → l < T.1) : ∀ (m k : Nat) (g1 : Nat → Nat → Int32), k + m = K.1 → fr_ f1_ g g1 → mm_W 9 M_Sc_whoHave 0 0 (fun v h' => v = some (.int (nI (sp_sum (sp_whb T C K pl l) K.1))) ∧ ∃ g', h' = (hp_SH ++ dy, g', r) ∧ fr_ f1_ g g') 0 0 (5, [some (.ref 0), some (.int (nI l)), some (.ref pa), some (.int (nI (sp_sum (sp_whb T C K pl l) k))), some (.int (nI k))], [], (hp_SH ++ dy, g1, r)) := by
  have h6 := hK.2.1
  have h4 := hL.2.1
  have hplt : pa < (hp_SH ++ dy).length := (List.getElem?_eq_some_iff.mp hpa).1
  intro m
  induction m with
  | zero =>
    intro k g1 hk hF
    have e21 : g1 2 1 = nI K.1 := by rw [nr_at (hF.nr f1_nr hP) 2 1 rfl]; exact hK.1
    refine mm_B ok_Sc_whoHave 4 5 (17, [some (.ref 0), some (.int (nI l)), some (.ref pa), some (.int (nI (sp_sum (sp_whb T C K pl l) k))), some (.int (nI k))], [.int (g1 2 1), .int (nI k)], (hp_SH ++ dy, g1, r)) [] rfl trivial ?_
    rw [e21]
    refine mm_I ok_Sc_whoHave 9 0 17 [some (.ref 0), some (.int (nI l)), some (.ref pa), some (.int (nI (sp_sum (sp_whb T C K pl l) k))), some (.int (nI k))] [.int (nI K.1), .int (nI k)] (hp_SH ++ dy, g1, r) [] rfl trivial rfl rfl (fun _ => ?_) (fun q => False.elim (q (nI_le (by omega) (by omega))))
    refine mm_B ok_Sc_whoHave 27 1 (48, [some (.ref 0), some (.int (nI l)), some (.ref pa), some (.int (nI (sp_sum (sp_whb T C K pl l) k))), some (.int (nI k))], [.int (nI (sp_sum (sp_whb T C K pl l) k))], (hp_SH ++ dy, g1, r)) [] rfl trivial ?_
    exact mm_ri rfl (mm_at ok_Sc_whoHave (i := 28) rfl).1 ⟨Nat.le_refl _, Nat.le_refl _⟩ (⟨by rw [show k = K.1 by omega], g1, rfl, hF⟩)
  | succ m ih =>
    intro k g1 hk hF
    have hP1 := hF.nr f1_nr hP
    have e21 : g1 2 1 = nI K.1 := by rw [nr_at hP1 2 1 rfl]; exact hK.1
    have hh : sp_end T C K pl k < 16 := sp_has_lt _ _ _ h4
    refine mm_B ok_Sc_whoHave 4 5 (17, [some (.ref 0), some (.int (nI l)), some (.ref pa), some (.int (nI (sp_sum (sp_whb T C K pl l) k))), some (.int (nI k))], [.int (g1 2 1), .int (nI k)], (hp_SH ++ dy, g1, r)) [] rfl trivial ?_
    rw [e21]
    refine mm_I ok_Sc_whoHave 9 0 17 [some (.ref 0), some (.int (nI l)), some (.ref pa), some (.int (nI (sp_sum (sp_whb T C K pl l) k))), some (.int (nI k))] [.int (nI K.1), .int (nI k)] (hp_SH ++ dy, g1, r) [] rfl trivial rfl rfl (fun q => False.elim (nI_ge (show k < K.1 by omega) (by omega) q)) (fun _ => ?_)
    refine mm_B ok_Sc_whoHave 10 3 (24, [some (.ref 0), some (.int (nI l)), some (.ref pa), some (.int (nI (sp_sum (sp_whb T C K pl l) k))), some (.int (nI k))], [.ref pa, .int (nI k), .ref 0], (hp_SH ++ dy, g1, r)) [] rfl trivial ?_
    refine mm_cV (as := [.int (nI k), .ref pa]) (st := []) (q := 0) cw_Sc_ownedAtEnd lk_Sc_231 in_Sc_ownedAtEnd sl_Sc_ownedAtEnd rfl rfl (mm_at ok_Sc_whoHave (i := 13) rfl).1 (ct_Sc_ownedAtEnd dy g1 P r hP1 hR hL hK (by omega) hpa hpf (fun b hb => by rw [hF pa b (hpf b)]; exact hpl b hb) hpo) (by decide) ⟨by omega, by omega⟩ (Nat.le_of_ble_eq_true rfl) ⟨fun k hk => by simp only [List.mem_cons, Option.some.injEq, Value.ref.injEq, reduceCtorEq, List.not_mem_nil, or_false, false_or] at hk; rcases hk with rfl | rfl <;> first | exact hplt | exact Nat.lt_of_lt_of_le (by decide) (hp_len dy), (mm_vs_b (b := 77) (lv := []) rfl (hp_len dy)).2⟩ (fun v h' hqq => ?_)
    obtain ⟨rfl, g2, hqe, hF2⟩ := hqq; rw [hqe]
    refine mm_B ok_Sc_whoHave 14 4 (31, [some (.ref 0), some (.int (nI l)), some (.ref pa), some (.int (nI (sp_sum (sp_whb T C K pl l) k))), some (.int (nI k))], [.int (((nI (sp_end T C K pl k)) >>> ((nI l) &&& 31)) &&& 1)], (hp_SH ++ dy, g2, r)) [] rfl trivial ?_
    rw [bt_tst _ hh _ (show l < 4 by omega)]
    refine mm_I ok_Sc_whoHave 18 0 31 [some (.ref 0), some (.int (nI l)), some (.ref pa), some (.int (nI (sp_sum (sp_whb T C K pl l) k))), some (.int (nI k))] [.int (nI (sp_end T C K pl k / 2 ^ l % 2))] (hp_SH ++ dy, g2, r) [] rfl trivial rfl rfl (fun hz => ?_) (fun hz => ?_)
    · have hz : sp_end T C K pl k / 2 ^ l % 2 = 0 := by
        rcases Nat.eq_zero_or_pos (sp_end T C K pl k / 2 ^ l % 2) with h | h
        · exact h
        · exact absurd hz (nI_ne0 h (by omega))
      refine mm_B ok_Sc_whoHave 25 2 (5, [some (.ref 0), some (.int (nI l)), some (.ref pa), some (.int (nI (sp_sum (sp_whb T C K pl l) k))), some (.int ((nI k) + 1))], [], (hp_SH ++ dy, g2, r)) [] rfl trivial ?_
      rw [nI_1]
      have hn : sp_sum (sp_whb T C K pl l) (k + 1) = sp_sum (sp_whb T C K pl l) k := by simp only [sp_sum, sp_whb]; rw [if_pos hz]; omega
      have h8 := ih (k + 1) g2 (by omega) (hF.tr hF2)
      rw [hn] at h8
      exact h8
    · have hz : ¬ sp_end T C K pl k / 2 ^ l % 2 = 0 := fun q => hz (by rw [q]; rfl)
      refine mm_B ok_Sc_whoHave 19 8 (5, [some (.ref 0), some (.int (nI l)), some (.ref pa), some (.int ((nI (sp_sum (sp_whb T C K pl l) k)) ||| (1 <<< ((nI k) &&& 31)))), some (.int ((nI k) + 1))], [], (hp_SH ++ dy, g2, r)) [] rfl trivial ?_
      rw [nI_1, bt_bit6 k (by omega) _ (sp_sum_lt _ sp_whb_or k)]
      have hn : sp_sum (sp_whb T C K pl l) (k + 1) = sp_sum (sp_whb T C K pl l) k + 2 ^ k := by simp only [sp_sum]; rw [show sp_whb T C K pl l k = 2 ^ k from if_neg hz]
      have h8 := ih (k + 1) g2 (by omega) (hF.tr hF2)
      rw [hn] at h8
      exact h8
theorem ct_Sc_whoHave (dy : List mm_Sh) (g P : Nat → Nat → Int32) (r : (Nat → Nat → Int64) × Nat × (Nat → Int32)) (hP : nr_ g = P) {C : Nat → List Int32} (hR : rt_R dy P C) {T : sp_T} (hL : rl_L T P) {K : sp_K} {l : Nat} (hK : rl_C K P) (hl : l < T.1) {pa : Nat} {pl : Nat → Option Nat} (hpa : (hp_SH ++ dy)[pa]? = some (.inl (0, 6))) (hpf : ∀ j, f1_ pa j = false) (hpl : ∀ b, b < 6 → g pa b = pl_c (pl b)) (hpo : ∀ b l, b < 6 → pl b = some l → l < T.1) : mm_Ct 9 M_Sc_whoHave [.ref 0, .int (nI l), .ref pa] (hp_SH ++ dy, g, r) 0 0 (fun v h' => v = some (.int (nI (sp_sum (sp_whb T C K pl l) K.1))) ∧ ∃ g', h' = (hp_SH ++ dy, g', r) ∧ fr_ f1_ g g') := by
  refine mm_start pl_Sc (Nat.le_of_ble_eq_true rfl) ?_
  refine mm_B ok_Sc_whoHave 0 4 (5, [some (.ref 0), some (.int (nI l)), some (.ref pa), some (.int 0), some (.int 0)], [], (hp_SH ++ dy, g, r)) [] rfl trivial ?_
  exact wh_go dy g P r hP hR hL hK hl hpa hpf hpl hpo K.1 0 g (by omega) fr_.rf
end
section
/-! ===== the JDK's methods over String constants; Reader.reads ===== -/
theorem pl_St' : plainName "java/lang/String" = true := by decide +kernel
theorem ct_St_coder (h : mm_Hp) {i : Nat} (hi : i < 12) : mm_Ct 1 M_St_coder [.retAddr i] h 0 0 (fun v h' => v = some (.int 0) ∧ h' = h) := by
  refine mm_start pl_St (Nat.le_of_ble_eq_true rfl) ?_
  refine mm_gsC fk_St_38 (mm_at ok_St_coder (i := 0) rfl).1 ?_
  refine mm_I ok_St_coder 1 0 3 [some (.retAddr i)] [.int 1] h [] rfl trivial rfl rfl (fun q => False.elim (absurd q (by decide))) (fun _ => ?_)
  refine mm_B ok_St_coder 2 1 (7, [some (.retAddr i)], [.retAddr i], h) [] rfl trivial ?_
  refine mm_gfC hi fk_St_15 (mm_at ok_St_coder (i := 3) rfl).1 ?_
  refine mm_B ok_St_coder 4 1 (14, [some (.retAddr i)], [.int 0], h) [] rfl trivial ?_
  exact mm_rc rfl (by decide) (mm_at ok_St_coder (i := 6) rfl).1 ⟨Nat.le_refl _, Nat.le_refl _⟩ ⟨rfl, rfl⟩
theorem ct_St_isLatin1 (h : mm_Hp) {i : Nat} (hi : i < 12) : mm_Ct 1 M_St_isLatin1 [.retAddr i] h 0 0 (fun v h' => v = some (.int 1) ∧ h' = h) := by
  refine mm_start pl_St (Nat.le_of_ble_eq_true rfl) ?_
  refine mm_gsC fk_St_38 (mm_at ok_St_isLatin1 (i := 0) rfl).1 ?_
  refine mm_I ok_St_isLatin1 1 0 3 [some (.retAddr i)] [.int 1] h [] rfl trivial rfl rfl (fun q => False.elim (absurd q (by decide))) (fun _ => ?_)
  refine mm_B ok_St_isLatin1 2 1 (7, [some (.retAddr i)], [.retAddr i], h) [] rfl trivial ?_
  refine mm_gfC hi fk_St_15 (mm_at ok_St_isLatin1 (i := 3) rfl).1 ?_
  refine mm_I ok_St_isLatin1 4 0 10 [some (.retAddr i)] [.int 0] h [] rfl trivial rfl rfl (fun q => False.elim (absurd rfl q)) (fun _ => ?_)
  refine mm_B ok_St_isLatin1 5 2 (18, [some (.retAddr i)], [.int 1], h) [] rfl trivial ?_
  exact mm_rz rfl (mm_at ok_St_isLatin1 (i := 8) rfl).1 ⟨Nat.le_refl _, Nat.le_refl _⟩ (Or.inr rfl) (⟨rfl, rfl⟩)
theorem sl_shr : ∀ i, i < 12 → nI (mm_sl.getD i 0) >>> ((0 : Int32) &&& 31) = nI (mm_sl.getD i 0) := by decide +kernel
theorem ct_St_length (h : mm_Hp) {i : Nat} (hi : i < 12) : mm_Ct 2 M_St_length [.retAddr i] h 0 0 (fun v h' => v = some (.int (nI (mm_sl.getD i 0))) ∧ h' = h) := by
  refine mm_start pl_St (Nat.le_of_ble_eq_true rfl) ?_
  refine mm_B ok_St_length 0 1 (1, [some (.retAddr i)], [.retAddr i], h) [] rfl trivial ?_
  refine mm_gfV hi fk_St_9 (mm_at ok_St_length (i := 1) rfl).1 ?_
  refine mm_stl' hi (mm_at ok_St_length (i := 2) rfl).1 ?_
  refine mm_B ok_St_length 3 1 (6, [some (.retAddr i)], [.retAddr i, .int (nI (mm_sl.getD i 0))], h) [] rfl trivial ?_
  refine mm_cT (as := []) (st := [.int (nI (mm_sl.getD i 0))]) hi cw_St_coder lk_St_335 in_St_coder sl_St_coder (mm_at ok_St_length (i := 4) rfl).1 (ct_St_coder h hi) (by decide) ⟨Nat.le_refl _, Nat.le_refl _⟩ (Nat.le_of_ble_eq_true rfl) (mm_vs_b (b := 0) rfl (Nat.zero_le _)) (fun v h' hqq => ?_)
  obtain ⟨rfl, hqe⟩ := hqq
  rw [hqe]
  refine mm_B ok_St_length 5 1 (10, [some (.retAddr i)], [.int ((nI (mm_sl.getD i 0)) >>> (0 &&& 31))], h) [] rfl trivial ?_
  exact mm_ri rfl (mm_at ok_St_length (i := 6) rfl).1 ⟨Nat.le_refl _, Nat.le_refl _⟩ ⟨congrArg some (congrArg Value.int (sl_shr i hi)), rfl⟩
theorem ct_Pr_checkIndexN (h : mm_Hp) {x y : Int32} (h0 : 0 ≤ x) (h1 : x < y) : mm_Ct 1 M_Pr_checkIndex [.int x, .int y, .null] h 0 0 (fun v h' => v = some (.int x) ∧ h' = h) := by
  refine mm_start pl_Pr (Nat.le_of_ble_eq_true rfl) ?_
  refine mm_I ok_Pr_checkIndex 0 1 1 [some (.int x), some (.int y), some (.null)] [.int x] h [] rfl trivial rfl rfl (fun q => False.elim (absurd q (Int32.not_lt.mpr h0))) (fun _ => ?_)
  refine mm_I ok_Pr_checkIndex 2 2 6 [some (.int x), some (.int y), some (.null)] [.int y, .int x] h [] rfl trivial rfl rfl (fun _ => ?_) (fun q => False.elim (q h1))
  refine mm_B ok_Pr_checkIndex 10 1 (17, [some (.int x), some (.int y), some (.null)], [.int x], h) [] rfl trivial ?_
  exact mm_ri rfl (mm_at ok_Pr_checkIndex (i := 11) rfl).1 ⟨Nat.le_refl _, Nat.le_refl _⟩ (⟨rfl, rfl⟩)
theorem ct_Pr_checkIndexS (h : mm_Hp) {x y : Int32} (h0 : 0 ≤ x) (h1 : x < y) : mm_Ct 1 M_Pr_checkIndex [.int x, .int y, .retAddr 200] h 0 0 (fun v h' => v = some (.int x) ∧ h' = h) := by
  refine mm_start pl_Pr (Nat.le_of_ble_eq_true rfl) ?_
  refine mm_I ok_Pr_checkIndex 0 1 1 [some (.int x), some (.int y), some (.retAddr 200)] [.int x] h [] rfl trivial rfl rfl (fun q => False.elim (absurd q (Int32.not_lt.mpr h0))) (fun _ => ?_)
  refine mm_I ok_Pr_checkIndex 2 2 6 [some (.int x), some (.int y), some (.retAddr 200)] [.int y, .int x] h [] rfl trivial rfl rfl (fun _ => ?_) (fun q => False.elim (q h1))
  refine mm_B ok_Pr_checkIndex 10 1 (17, [some (.int x), some (.int y), some (.retAddr 200)], [.int x], h) [] rfl trivial ?_
  exact mm_ri rfl (mm_at ok_Pr_checkIndex (i := 11) rfl).1 ⟨Nat.le_refl _, Nat.le_refl _⟩ (⟨rfl, rfl⟩)
theorem ct_St_checkIndex (h : mm_Hp) {x y : Int32} (h0 : 0 ≤ x) (h1 : x < y) : mm_Ct 2 M_St_checkIndex [.int x, .int y] h 0 0 (fun v h' => v = none ∧ h' = h) := by
  refine mm_start pl_St (Nat.le_of_ble_eq_true rfl) ?_
  refine mm_B ok_St_checkIndex 0 2 (2, [some (.int x), some (.int y)], [.int y, .int x], h) [] rfl trivial ?_
  refine mm_gsF fk_St_1053 (mm_at ok_St_checkIndex (i := 2) rfl).1 ?_ ?_
  · refine mm_cS (as := [.int x, .int y, .null]) (st := []) cw_Pr_checkIndex lk_St_1059 sx_Pr_checkIndex (mm_at ok_St_checkIndex (i := 3) rfl).1 (ct_Pr_checkIndexN h h0 h1) (by decide) ⟨by omega, by omega⟩ (Nat.le_of_ble_eq_true rfl) (mm_vs_b (b := 0) rfl (Nat.zero_le _)) (fun v h' hqq => ?_)
    obtain ⟨rfl, hqe⟩ := hqq; rw [hqe]
    refine mm_B ok_St_checkIndex 4 1 (9, [some (.int x), some (.int y)], [], h) [] rfl trivial ?_
    exact mm_r0 rfl (mm_at ok_St_checkIndex (i := 5) rfl).1 ⟨Nat.le_refl _, Nat.le_refl _⟩ (⟨rfl, rfl⟩)
  · refine mm_cS (as := [.int x, .int y, .retAddr 200]) (st := []) cw_Pr_checkIndex lk_St_1059 sx_Pr_checkIndex (mm_at ok_St_checkIndex (i := 3) rfl).1 (ct_Pr_checkIndexS h h0 h1) (by decide) ⟨by omega, by omega⟩ (Nat.le_of_ble_eq_true rfl) (mm_vs_b (b := 0) rfl (Nat.zero_le _)) (fun v h' hqq => ?_)
    obtain ⟨rfl, hqe⟩ := hqq; rw [hqe]
    refine mm_B ok_St_checkIndex 4 1 (9, [some (.int x), some (.int y)], [], h) [] rfl trivial ?_
    exact mm_r0 rfl (mm_at ok_St_checkIndex (i := 5) rfl).1 ⟨Nat.le_refl _, Nat.le_refl _⟩ (⟨rfl, rfl⟩)
theorem sb_ch : ∀ i, i < 12 → ∀ k, k < mm_sl.getD i 0 → ((((mm_sb.getD i []).getD k 0 &&& 255).toUInt32 % 65536).toInt32 = (mm_sb.getD i []).getD k 0) ∧ vp_nar .char ((mm_sb.getD i []).getD k 0) = (mm_sb.getD i []).getD k 0 := by decide +kernel
theorem sl_lt : ∀ i, i < 12 → mm_sl.getD i 0 < 7 := by decide
theorem ct_Sl_charAt (h : mm_Hp) {i k : Nat} (hi : i < 12) (hk : k < mm_sl.getD i 0) : mm_Ct 3 M_Sl_charAt [.retAddr (100 + i), .int (nI k)] h 0 0 (fun v h' => v = some (.int ((mm_sb.getD i []).getD k 0)) ∧ h' = h) := by
  have h7 := sl_lt i hi
  have hc := sb_ch i hi k hk
  refine mm_start pl_Sl (Nat.le_of_ble_eq_true rfl) ?_
  refine mm_B ok_Sl_charAt 0 2 (2, [some (.retAddr (100 + i)), some (.int (nI k))], [.retAddr (100 + i), .int (nI k)], h) [] rfl trivial ?_
  refine mm_stl' hi (mm_at ok_Sl_charAt (i := 2) rfl).1 ?_
  refine mm_cS (as := [.int (nI k), .int (nI (mm_sl.getD i 0))]) (st := []) cw_St_checkIndex lk_Sl_9 sx_St_checkIndex (mm_at ok_Sl_charAt (i := 3) rfl).1 (ct_St_checkIndex h (nI_pos' (by omega)) (nI_lt hk (by omega))) (by decide) ⟨by omega, by omega⟩ (Nat.le_of_ble_eq_true rfl) (mm_vs_b (b := 0) rfl (Nat.zero_le _)) (fun v h' hqq => ?_)
  obtain ⟨rfl, hqe⟩ := hqq; rw [hqe]
  refine mm_B ok_Sl_charAt 4 2 (8, [some (.retAddr (100 + i)), some (.int (nI k))], [.int (nI k), .retAddr (100 + i)], h) [] rfl trivial ?_
  refine mm_stb hi (nI_vi hk (by omega)) (mm_at ok_Sl_charAt (i := 6) rfl).1 ?_
  rw [nI_clamp (show k < 2 ^ 31 by omega)]
  refine mm_B ok_Sl_charAt 7 3 (14, [some (.retAddr (100 + i)), some (.int (nI k))], [.int ((((mm_sb.getD i []).getD k 0) &&& 255).toUInt32 % 65536).toInt32], h) [] rfl trivial ?_
  rw [hc.1]
  exact mm_rc rfl (congrArg Value.int hc.2) (mm_at ok_Sl_charAt (i := 10) rfl).1 ⟨Nat.le_refl _, Nat.le_refl _⟩ ⟨rfl, rfl⟩
theorem ct_St_charAt (h : mm_Hp) {i k : Nat} (hi : i < 12) (hk : k < mm_sl.getD i 0) : mm_Ct 4 M_St_charAt [.retAddr i, .int (nI k)] h 0 0 (fun v h' => v = some (.int ((mm_sb.getD i []).getD k 0)) ∧ h' = h) := by
  refine mm_start pl_St (Nat.le_of_ble_eq_true rfl) ?_
  have hc := sb_ch i hi k hk
  refine mm_B ok_St_charAt 0 1 (1, [some (.retAddr i), some (.int (nI k))], [.retAddr i], h) [] rfl trivial ?_
  refine mm_cT (as := []) (st := []) hi cw_St_isLatin1 lk_St_492 in_St_isLatin1 sl_St_isLatin1 (mm_at ok_St_charAt (i := 1) rfl).1 (ct_St_isLatin1 h hi) (by decide) ⟨Nat.le_refl _, Nat.le_refl _⟩ (Nat.le_of_ble_eq_true rfl) (mm_vs_b (b := 0) rfl (Nat.zero_le _)) (fun v h' hqq => ?_)
  obtain ⟨rfl, hqe⟩ := hqq
  rw [hqe]
  refine mm_I ok_St_charAt 2 0 4 [some (.retAddr i), some (.int (nI k))] [.int 1] h [] rfl trivial rfl rfl (fun q => False.elim (absurd q (by decide))) (fun _ => ?_)
  refine mm_B ok_St_charAt 3 1 (8, [some (.retAddr i), some (.int (nI k))], [.retAddr i], h) [] rfl trivial ?_
  refine mm_gfV hi fk_St_9 (mm_at ok_St_charAt (i := 4) rfl).1 ?_
  refine mm_B ok_St_charAt 5 1 (12, [some (.retAddr i), some (.int (nI k))], [.int (nI k), .retAddr (100 + i)], h) [] rfl trivial ?_
  refine mm_cS (as := [.retAddr (100 + i), .int (nI k)]) (st := []) cw_Sl_charAt lk_St_495 sx_Sl_charAt (mm_at ok_St_charAt (i := 6) rfl).1 (ct_Sl_charAt h hi hk) (by decide) ⟨by omega, by omega⟩ (Nat.le_of_ble_eq_true rfl) (mm_vs_b (b := 0) rfl (Nat.zero_le _)) (fun v h' hqq => ?_)
  obtain ⟨rfl, hqe⟩ := hqq; rw [hqe]
  exact mm_rc rfl (congrArg Value.int hc.2) (mm_at ok_St_charAt (i := 7) rfl).1 ⟨Nat.le_refl _, Nat.le_refl _⟩ ⟨rfl, rfl⟩
/-- a word of the tape is that one -/
def we_ (B : Nat → Int32) : List Int32 → Nat → Bool
  | [], _ => true
  | a :: w, s => decide (B s = a) && we_ B w (s + 1)
def wm_ (B : Nat → Int32) (s e : Nat) (w : List Int32) : Bool := decide (e - s = w.length) && we_ B w s
theorem nI_sub {a b : Nat} (h : b ≤ a) : nI a - nI b = nI (a - b) := by
  have : nI a = nI (a - b) + nI b := by rw [nI_add, Nat.sub_add_cancel h]
  rw [this, Int32.add_sub_cancel]
theorem sl_sb : ∀ i, i < 12 → (mm_sb.getD i []).length = mm_sl.getD i 0 := by decide
theorem rd_go (dy : List mm_Sh) (g : Nat → Nat → Int32) (r : (Nat → Nat → Int64) × Nat × (Nat → Int32)) {B : Nat → Int32} {s e i : Nat} (hi : i < 12) (hs : g 31 2 = nI s) (hse : s ≤ e) (he : e ≤ 160) (hB : ∀ j, s ≤ j → j < e → g 32 j = B j) (hl : e - s = mm_sl.getD i 0) : ∀ (w : List Int32) (k : Nat), (mm_sb.getD i []).drop k = w → k ≤ mm_sl.getD i 0 → mm_W 5 M_Re_reads 0 0 (fun v h' => v = some (.int (if we_ B w (s + k) = true then 1 else 0)) ∧ h' = (hp_SH ++ dy, g, r)) 0 0 (20, [some (.ref 31), some (.retAddr i), some (.int (nI k))], [], (hp_SH ++ dy, g, r)) := by
  have h7 := sl_lt i hi
  have hlen := sl_sb i hi
  intro w
  induction w with
  | nil =>
    intro k hw hk
    have hk : k = mm_sl.getD i 0 := by
      have h1 := congrArg List.length hw
      rw [List.length_drop, hlen] at h1
      simp only [List.length_nil] at h1
      omega
    refine mm_B ok_Re_reads 12 2 (22, [some (.ref 31), some (.retAddr i), some (.int (nI k))], [.retAddr i, .int (nI k)], (hp_SH ++ dy, g, r)) [] rfl trivial ?_
    refine mm_cT (as := []) (st := [.int (nI k)]) hi cw_St_length lk_Re_123 in_St_length sl_St_length (mm_at ok_Re_reads (i := 14) rfl).1 (ct_St_length (hp_SH ++ dy, g, r) hi) (by decide) ⟨Nat.le_refl _, Nat.le_refl _⟩ (Nat.le_of_ble_eq_true rfl) (mm_vs_b (b := 77) rfl (hp_len dy)) (fun v h' hqq => ?_)
    obtain ⟨rfl, hqe⟩ := hqq
    rw [hqe]
    refine mm_I ok_Re_reads 15 0 25 [some (.ref 31), some (.retAddr i), some (.int (nI k))] [.int (nI (mm_sl.getD i 0)), .int (nI k)] (hp_SH ++ dy, g, r) [] rfl trivial rfl rfl (fun _ => ?_) (fun q => False.elim (q (nI_le (by omega) (by omega))))
    refine mm_B ok_Re_reads 31 1 (56, [some (.ref 31), some (.retAddr i), some (.int (nI k))], [.int 1], (hp_SH ++ dy, g, r)) [] rfl trivial ?_
    exact mm_rz rfl (mm_at ok_Re_reads (i := 32) rfl).1 ⟨Nat.le_refl _, Nat.le_refl _⟩ (Or.inr rfl) (⟨by rw [show we_ B [] (s + k) = true from rfl, if_pos rfl], rfl⟩)
  | cons a w ih =>
    intro k hw hk
    have hlt : k < (mm_sb.getD i []).length := by
      have h1 := congrArg List.length hw
      rw [List.length_drop] at h1
      simp only [List.length_cons] at h1
      omega
    have hw2 : (mm_sb.getD i []).getD k 0 = a ∧ (mm_sb.getD i []).drop (k + 1) = w := by
      have h1 := List.drop_eq_getElem_cons hlt
      rw [hw] at h1
      injection h1 with h2 h3
      refine ⟨?_, h3.symm⟩
      rw [h2, List.getD_eq_getElem?_getD, List.getElem?_eq_getElem hlt]
      rfl
    have hkl : k < mm_sl.getD i 0 := by omega
    refine mm_B ok_Re_reads 12 2 (22, [some (.ref 31), some (.retAddr i), some (.int (nI k))], [.retAddr i, .int (nI k)], (hp_SH ++ dy, g, r)) [] rfl trivial ?_
    refine mm_cT (as := []) (st := [.int (nI k)]) hi cw_St_length lk_Re_123 in_St_length sl_St_length (mm_at ok_Re_reads (i := 14) rfl).1 (ct_St_length (hp_SH ++ dy, g, r) hi) (by decide) ⟨Nat.le_refl _, Nat.le_refl _⟩ (Nat.le_of_ble_eq_true rfl) (mm_vs_b (b := 77) rfl (hp_len dy)) (fun v h' hqq => ?_)
    obtain ⟨rfl, hqe⟩ := hqq
    rw [hqe]
    refine mm_I ok_Re_reads 15 0 25 [some (.ref 31), some (.retAddr i), some (.int (nI k))] [.int (nI (mm_sl.getD i 0)), .int (nI k)] (hp_SH ++ dy, g, r) [] rfl trivial rfl rfl (fun q => False.elim (nI_ge hkl (by omega) q)) (fun _ => ?_)
    refine mm_B ok_Re_reads 16 9 (41, [some (.ref 31), some (.retAddr i), some (.int (nI k))], [.int (nI k), .retAddr i, .int (g 32 (((g 31 2) + (nI k)).toNatClampNeg))], (hp_SH ++ dy, g, r)) [vp_in ((g 31 2) + (nI k)) 160] rfl (show vp_in ((g 31 2) + (nI k)) 160 from (by rw [hs, nI_add]; exact nI_vi (by omega) (by decide))) ?_
    rw [hs, nI_add, nI_clamp (show s + k < 2 ^ 31 by omega), hB (s + k) (by omega) (by omega)]
    refine mm_cT (as := [.int (nI k)]) (st := [.int (B (s + k))]) hi cw_St_charAt lk_Re_128 in_St_charAt sl_St_charAt (mm_at ok_Re_reads (i := 25) rfl).1 (ct_St_charAt (hp_SH ++ dy, g, r) hi hkl) (by decide) ⟨Nat.le_refl _, Nat.le_refl _⟩ (Nat.le_of_ble_eq_true rfl) (mm_vs_b (b := 77) rfl (hp_len dy)) (fun v h' hqq => ?_)
    obtain ⟨rfl, hqe⟩ := hqq
    rw [hqe, hw2.1]
    refine mm_I ok_Re_reads 26 0 44 [some (.ref 31), some (.retAddr i), some (.int (nI k))] [.int a, .int (B (s + k))] (hp_SH ++ dy, g, r) [] rfl trivial rfl rfl (fun q => ?_) (fun q => ?_)
    · refine mm_B ok_Re_reads 29 2 (20, [some (.ref 31), some (.retAddr i), some (.int ((nI k) + 1))], [], (hp_SH ++ dy, g, r)) [] rfl trivial ?_
      rw [nI_1]
      have h8 := ih (k + 1) hw2.2 (by omega)
      have e9 : we_ B (a :: w) (s + k) = we_ B w (s + (k + 1)) := by
        simp only [we_]
        rw [decide_eq_true q, Bool.true_and, Nat.add_assoc]
      rw [e9]
      exact h8
    · refine mm_B ok_Re_reads 27 1 (48, [some (.ref 31), some (.retAddr i), some (.int (nI k))], [.int 0], (hp_SH ++ dy, g, r)) [] rfl trivial ?_
      have e9 : we_ B (a :: w) (s + k) = false := by
        simp only [we_]
        rw [decide_eq_false q, Bool.false_and]
      exact mm_rz rfl (mm_at ok_Re_reads (i := 28) rfl).1 ⟨Nat.le_refl _, Nat.le_refl _⟩ (Or.inl rfl) (⟨by rw [e9]; rfl, rfl⟩)
theorem ct_Re_reads (dy : List mm_Sh) (g : Nat → Nat → Int32) (r : (Nat → Nat → Int64) × Nat × (Nat → Int32)) {B : Nat → Int32} {s e i : Nat} (hi : i < 12) (hs : g 31 2 = nI s) (hp : g 31 3 = nI e) (hse : s ≤ e) (he : e ≤ 160) (hB : ∀ j, s ≤ j → j < e → g 32 j = B j) : mm_Ct 5 M_Re_reads [.ref 31, .retAddr i] (hp_SH ++ dy, g, r) 0 0 (fun v h' => v = some (.int (if wm_ B s e (mm_sb.getD i []) = true then 1 else 0)) ∧ h' = (hp_SH ++ dy, g, r)) := by
  have h7 := sl_lt i hi
  have hlen := sl_sb i hi
  refine mm_start pl_Re (Nat.le_of_ble_eq_true rfl) ?_
  refine mm_B ok_Re_reads 0 6 (10, [some (.ref 31), some (.retAddr i), none], [.retAddr i, .int ((g 31 3) - (g 31 2))], (hp_SH ++ dy, g, r)) [] rfl trivial ?_
  rw [hp, hs, nI_sub hse]
  refine mm_cT (as := []) (st := [.int (nI (e - s))]) hi cw_St_length lk_Re_123 in_St_length sl_St_length (mm_at ok_Re_reads (i := 6) rfl).1 (ct_St_length (hp_SH ++ dy, g, r) hi) (by decide) ⟨Nat.le_refl _, Nat.le_refl _⟩ (Nat.le_of_ble_eq_true rfl) (mm_vs_b (b := 77) rfl (hp_len dy)) (fun v h' hqq => ?_)
  obtain ⟨rfl, hqe⟩ := hqq
  rw [hqe]
  refine mm_I ok_Re_reads 7 0 13 [some (.ref 31), some (.retAddr i), none] [.int (nI (mm_sl.getD i 0)), .int (nI (e - s))] (hp_SH ++ dy, g, r) [] rfl trivial rfl rfl (fun q => ?_) (fun q => ?_)
  · have q2 : e - s = mm_sl.getD i 0 := (nI_eq (by omega) (by omega)).mp q
    refine mm_B ok_Re_reads 10 2 (20, [some (.ref 31), some (.retAddr i), some (.int 0)], [], (hp_SH ++ dy, g, r)) [] rfl trivial ?_
    have h8 := rd_go dy g r hi hs hse he hB q2 (mm_sb.getD i []) 0 rfl (by omega)
    have e9 : wm_ B s e (mm_sb.getD i []) = we_ B (mm_sb.getD i []) (s + 0) := by
      unfold wm_
      rw [hlen, decide_eq_true q2, Bool.true_and]
      rfl
    rw [e9]
    exact h8
  · have q2 : ¬ e - s = mm_sl.getD i 0 := fun e9 => q (by rw [e9])
    refine mm_B ok_Re_reads 8 1 (17, [some (.ref 31), some (.retAddr i), none], [.int 0], (hp_SH ++ dy, g, r)) [] rfl trivial ?_
    have e9 : wm_ B s e (mm_sb.getD i []) = false := by
      unfold wm_
      rw [hlen, decide_eq_false q2, Bool.false_and]
    exact mm_rz rfl (mm_at ok_Re_reads (i := 9) rfl).1 ⟨Nat.le_refl _, Nat.le_refl _⟩ (Or.inl rfl) (⟨by rw [e9]; rfl, rfl⟩)
end
section
/-! ===== tokens: what stands where; Reader.number, word, sign, advance ===== -/
/-- a run of places -/
def rn_ (f : Nat → Bool) : Nat → Nat → Nat
  | 0, p => p
  | m + 1, p => if f p = true then rn_ f m (p + 1) else p
def sk_ (f : Nat → Bool) (n p : Nat) : Nat := rn_ f (n - p) p
theorem rn_le (f : Nat → Bool) : ∀ m p, p ≤ rn_ f m p ∧ rn_ f m p ≤ p + m
  | 0, p => ⟨Nat.le_refl _, Nat.le_refl _⟩
  | m + 1, p => by
    have := rn_le f m (p + 1)
    simp only [rn_]
    split <;> omega
theorem sk_le (f : Nat → Bool) (n p : Nat) : p ≤ sk_ f n p := (rn_le f _ p).1
theorem sk_ub (f : Nat → Bool) {n p : Nat} (h : p ≤ n) : sk_ f n p ≤ n := by
  have := (rn_le f (n - p) p).2
  unfold sk_
  omega
theorem sk_T {f : Nat → Bool} {n p : Nat} (h : f p = true) (hp : p < n) : sk_ f n p = sk_ f n (p + 1) := by
  unfold sk_
  obtain ⟨m, hm⟩ : ∃ m, n - p = m + 1 := ⟨n - p - 1, by omega⟩
  rw [hm, show n - (p + 1) = m by omega]
  simp only [rn_]
  rw [if_pos h]
theorem sk_F {f : Nat → Bool} {n p : Nat} (h : f p = false) : sk_ f n p = p := by
  unfold sk_
  cases hm : n - p with
  | zero => rfl
  | succ m =>
    simp only [rn_]
    rw [if_neg (by rw [h]; decide)]
theorem sk_ge {f : Nat → Bool} {n p : Nat} (h : n ≤ p) : sk_ f n p = p := by
  unfold sk_
  rw [show n - p = 0 by omega]
  rfl
/-- all places of a run hold -/
theorem rn_all (f : Nat → Bool) : ∀ m p j, p ≤ j → j < rn_ f m p → f j = true
  | 0, p, j, h1, h2 => by simp only [rn_] at h2; omega
  | m + 1, p, j, h1, h2 => by
    simp only [rn_] at h2
    split at h2
    · rename_i hf
      by_cases e : j = p
      · rw [e]; exact hf
      · exact rn_all f m (p + 1) j (by omega) h2
    · omega
theorem sk_all {f : Nat → Bool} {n p j : Nat} (h1 : p ≤ j) (h2 : j < sk_ f n p) : f j = true := rn_all f _ p j h1 h2
theorem rn_stop (f : Nat → Bool) : ∀ m p, rn_ f m p < p + m → f (rn_ f m p) = false
  | 0, p, h => by simp only [rn_] at h; omega
  | m + 1, p, h => by
    simp only [rn_] at h ⊢
    split at h
    · rename_i hf
      rw [if_pos hf]
      exact rn_stop f m (p + 1) (by omega)
    · rename_i hf
      rw [if_neg hf]
      simpa using hf
theorem sk_stop {f : Nat → Bool} {n p : Nat} (h : sk_ f n p < n) : f (sk_ f n p) = false := by
  by_cases hp : p ≤ n
  · exact rn_stop f _ p (by unfold sk_ at h; omega)
  · exfalso
    have := sk_le f n p
    omega
def bl_ (B : Nat → Int32) (j : Nat) : Bool := decide (B j = 32) || decide (B j = 10)
def dg_ (B : Nat → Int32) (j : Nat) : Bool := decide (f_Re_isDigit (B j) = 1)
def lt_ (B : Nat → Int32) (j : Nat) : Bool := decide (f_Re_isLetter (B j) = 1)
/-- a number's value, of its first k digits -/
def nv_ (B : Nat → Int32) (s : Nat) : Nat → Int32
  | 0 => 0
  | k + 1 => nv_ B s k * 10 + B (s + k) - 48
def sg_ (x : Int32) : Int32 := if x = 40 then -16 else if x = 41 then -17 else if x = 42 then -14 else if x = 43 then -12 else if x = 45 then -13 else if x = 59 then -18 else if x = 60 then -10 else if x = 61 then -11 else -23
def wo_ (B : Nat → Int32) (s e i : Nat) : Bool := wm_ B s e (mm_sb.getD i [])
def wc_ (B : Nat → Int32) (s e : Nat) : Int32 :=
  if wo_ B s e 0 = true then -1 else if wo_ B s e 1 = true then -2 else if wo_ B s e 2 = true then -3 else if wo_ B s e 3 = true then -4 else if wo_ B s e 4 = true then -5 else if wo_ B s e 5 = true then -6 else if wo_ B s e 6 = true then -7 else if wo_ B s e 7 = true then -8 else if wo_ B s e 8 = true then -9 else if wo_ B s e 9 = true then -19 else if wo_ B s e 10 = true then -20 else if wo_ B s e 11 = true then -21 else -23
/-- where the token behind place q begins -/
def ts_ (B : Nat → Int32) (n q : Nat) : Nat := sk_ (bl_ B) n q
/-- the token that begins at s; where it ends -/
def tk0 (B : Nat → Int32) (n s : Nat) : Int32 := if n ≤ s then -22 else if dg_ B s = true then (if 4 < sk_ (dg_ B) n s - s then -23 else nv_ B s (sk_ (dg_ B) n s - s)) else if lt_ B s = true then wc_ B s (sk_ (lt_ B) n s) else sg_ (B s)
def nx0 (B : Nat → Int32) (n s : Nat) : Nat := if n ≤ s then s else if dg_ B s = true then sk_ (dg_ B) n s else if lt_ B s = true then sk_ (lt_ B) n s else s + 1
def tk_ (B : Nat → Int32) (n q : Nat) : Int32 := tk0 B n (ts_ B n q)
def nx_ (B : Nat → Int32) (n q : Nat) : Nat := nx0 B n (ts_ B n q)
theorem ts_le (B : Nat → Int32) (n q : Nat) : q ≤ ts_ B n q := sk_le _ _ _
theorem ts_ub (B : Nat → Int32) {n q : Nat} (h : q ≤ n) : ts_ B n q ≤ n := sk_ub _ h
theorem nx0_ub (B : Nat → Int32) {n s : Nat} (h : s ≤ n) : nx0 B n s ≤ n := by
  unfold nx0
  split
  · exact h
  · split
    · exact sk_ub _ h
    · split
      · exact sk_ub _ h
      · omega
theorem nx0_lt (B : Nat → Int32) {n s : Nat} (h : s < n) : s < nx0 B n s := by
  unfold nx0
  rw [if_neg (by omega)]
  split
  · rename_i hd
    rw [sk_T hd h]
    exact sk_le _ n (s + 1)
  · split
    · rename_i hd
      rw [sk_T hd h]
      exact sk_le _ n (s + 1)
    · omega
theorem nx_ub (B : Nat → Int32) {n q : Nat} (h : q ≤ n) : nx_ B n q ≤ n := nx0_ub B (ts_ub B h)
theorem nx_lt (B : Nat → Int32) {n q : Nat} (ht : ¬ tk_ B n q = -22) : q < nx_ B n q := by
  have h1 := ts_le B n q
  have : ¬ n ≤ ts_ B n q := fun e => ht (by unfold tk_ tk0; rw [if_pos e])
  have := nx0_lt B (show ts_ B n q < n by omega)
  unfold nx_
  omega
/-- the places of Reader that a token changes -/
def f3_ (k j : Nat) : Bool := k == 31 && (j == 2 || j == 3 || j == 4)
theorem f3_nr : ∀ k j, nr_s k j = false → f3_ k j = false := by
  intro k j h
  unfold f3_
  cases h13 : k == 31 with
  | true =>
    rw [show k = 31 by simpa using h13] at h
    have h2 : Nat.ble 2 j = false := h
    cases hj : (j == 2 || j == 3 || j == 4) with
    | true =>
      simp at hj
      rcases hj with (rfl | rfl) | rfl <;> cases h2
    | false => rfl
  | false => rfl
theorem ct_Re_sign (h : mm_Hp) (x : Int32) : mm_Ct 1 M_Re_sign [.int x] h 0 0 (fun v h' => v = some (.int (sg_ x)) ∧ h' = h) := by
  refine mm_start pl_Re (Nat.le_of_ble_eq_true rfl) ?_
  refine mm_B ok_Re_sign 0 1 (1, [some (.int x)], [.int x], h) [] rfl trivial ?_
  by_cases s40 : x = 40
  · refine mm_sw (tgt := 104) (mm_at ok_Re_sign (i := 1) rfl).1 (by rw [s40]; exact Or.inr ⟨by decide, _, rfl, by decide⟩) ?_
    refine mm_B ok_Re_sign 2 1 (106, [some (.int x)], [.int (-16)], h) [] rfl trivial ?_
    exact mm_ri rfl (mm_at ok_Re_sign (i := 3) rfl).1 ⟨Nat.le_refl _, Nat.le_refl _⟩ (⟨by rw [s40]; rfl, rfl⟩)
  by_cases s41 : x = 41
  · refine mm_sw (tgt := 107) (mm_at ok_Re_sign (i := 1) rfl).1 (by rw [s41]; exact Or.inr ⟨by decide, _, rfl, by decide⟩) ?_
    refine mm_B ok_Re_sign 4 1 (109, [some (.int x)], [.int (-17)], h) [] rfl trivial ?_
    exact mm_ri rfl (mm_at ok_Re_sign (i := 5) rfl).1 ⟨Nat.le_refl _, Nat.le_refl _⟩ (⟨by rw [s41]; rfl, rfl⟩)
  by_cases s42 : x = 42
  · refine mm_sw (tgt := 119) (mm_at ok_Re_sign (i := 1) rfl).1 (by rw [s42]; exact Or.inr ⟨by decide, _, rfl, by decide⟩) ?_
    refine mm_B ok_Re_sign 12 1 (121, [some (.int x)], [.int (-14)], h) [] rfl trivial ?_
    exact mm_ri rfl (mm_at ok_Re_sign (i := 13) rfl).1 ⟨Nat.le_refl _, Nat.le_refl _⟩ (⟨by rw [s42]; rfl, rfl⟩)
  by_cases s43 : x = 43
  · refine mm_sw (tgt := 113) (mm_at ok_Re_sign (i := 1) rfl).1 (by rw [s43]; exact Or.inr ⟨by decide, _, rfl, by decide⟩) ?_
    refine mm_B ok_Re_sign 8 1 (115, [some (.int x)], [.int (-12)], h) [] rfl trivial ?_
    exact mm_ri rfl (mm_at ok_Re_sign (i := 9) rfl).1 ⟨Nat.le_refl _, Nat.le_refl _⟩ (⟨by rw [s43]; rfl, rfl⟩)
  by_cases s45 : x = 45
  · refine mm_sw (tgt := 116) (mm_at ok_Re_sign (i := 1) rfl).1 (by rw [s45]; exact Or.inr ⟨by decide, _, rfl, by decide⟩) ?_
    refine mm_B ok_Re_sign 10 1 (118, [some (.int x)], [.int (-13)], h) [] rfl trivial ?_
    exact mm_ri rfl (mm_at ok_Re_sign (i := 11) rfl).1 ⟨Nat.le_refl _, Nat.le_refl _⟩ (⟨by rw [s45]; rfl, rfl⟩)
  by_cases s59 : x = 59
  · refine mm_sw (tgt := 110) (mm_at ok_Re_sign (i := 1) rfl).1 (by rw [s59]; exact Or.inr ⟨by decide, _, rfl, by decide⟩) ?_
    refine mm_B ok_Re_sign 6 1 (112, [some (.int x)], [.int (-18)], h) [] rfl trivial ?_
    exact mm_ri rfl (mm_at ok_Re_sign (i := 7) rfl).1 ⟨Nat.le_refl _, Nat.le_refl _⟩ (⟨by rw [s59]; rfl, rfl⟩)
  by_cases s60 : x = 60
  · refine mm_sw (tgt := 122) (mm_at ok_Re_sign (i := 1) rfl).1 (by rw [s60]; exact Or.inr ⟨by decide, _, rfl, by decide⟩) ?_
    refine mm_B ok_Re_sign 14 1 (124, [some (.int x)], [.int (-10)], h) [] rfl trivial ?_
    exact mm_ri rfl (mm_at ok_Re_sign (i := 15) rfl).1 ⟨Nat.le_refl _, Nat.le_refl _⟩ (⟨by rw [s60]; rfl, rfl⟩)
  by_cases s61 : x = 61
  · refine mm_sw (tgt := 125) (mm_at ok_Re_sign (i := 1) rfl).1 (by rw [s61]; exact Or.inr ⟨by decide, _, rfl, by decide⟩) ?_
    refine mm_B ok_Re_sign 16 1 (127, [some (.int x)], [.int (-11)], h) [] rfl trivial ?_
    exact mm_ri rfl (mm_at ok_Re_sign (i := 17) rfl).1 ⟨Nat.le_refl _, Nat.le_refl _⟩ (⟨by rw [s61]; rfl, rfl⟩)
  have e9 : sg_ x = -23 := by unfold sg_; rw [if_neg s40, if_neg s41, if_neg s42, if_neg s43, if_neg s45, if_neg s59, if_neg s60, if_neg s61]
  have n40 : x.toInt ≠ 40 := fun e => s40 (Int32.toInt_inj.mp e)
  have n41 : x.toInt ≠ 41 := fun e => s41 (Int32.toInt_inj.mp e)
  have n42 : x.toInt ≠ 42 := fun e => s42 (Int32.toInt_inj.mp e)
  have n43 : x.toInt ≠ 43 := fun e => s43 (Int32.toInt_inj.mp e)
  have n45 : x.toInt ≠ 45 := fun e => s45 (Int32.toInt_inj.mp e)
  have n59 : x.toInt ≠ 59 := fun e => s59 (Int32.toInt_inj.mp e)
  have n60 : x.toInt ≠ 60 := fun e => s60 (Int32.toInt_inj.mp e)
  have n61 : x.toInt ≠ 61 := fun e => s61 (Int32.toInt_inj.mp e)
  have hcs : (x.toInt < 40 ∨ 61 < x.toInt) ∨ x.toInt = 44 ∨ x.toInt = 46 ∨ x.toInt = 47 ∨ x.toInt = 48 ∨ x.toInt = 49 ∨ x.toInt = 50 ∨ x.toInt = 51 ∨ x.toInt = 52 ∨ x.toInt = 53 ∨ x.toInt = 54 ∨ x.toInt = 55 ∨ x.toInt = 56 ∨ x.toInt = 57 ∨ x.toInt = 58 := by omega
  refine mm_sw (tgt := 128) (mm_at ok_Re_sign (i := 1) rfl).1 (by rcases hcs with hs | hs | hs | hs | hs | hs | hs | hs | hs | hs | hs | hs | hs | hs | hs <;> first | exact Or.inl ⟨hs, by decide⟩ | (rw [hs]; exact Or.inr ⟨by decide, _, rfl, by decide⟩)) ?_
  refine mm_B ok_Re_sign 18 1 (130, [some (.int x)], [.int (-23)], h) [] rfl trivial ?_
  exact mm_ri rfl (mm_at ok_Re_sign (i := 19) rfl).1 ⟨Nat.le_refl _, Nat.le_refl _⟩ (⟨by rw [e9], rfl⟩)
theorem nu_go (dy : List mm_Sh) (g P : Nat → Nat → Int32) (r : (Nat → Nat → Int64) × Nat × (Nat → Int32)) (hP : nr_ g = P) {B : Nat → Int32} {n : Nat} (hN : P 31 1 = nI n) (hn : n ≤ 160) (hB : ∀ j, j < n → P 32 j = B j) {s : Nat} (hs : s ≤ n) (h2 : g 31 2 = nI s) : ∀ (m k : Nat) (g1 : Nat → Nat → Int32), n - (s + k) ≤ m → s + k ≤ n → fr_ f3_ g g1 → g1 31 2 = nI s → g1 31 3 = nI (s + k) → sk_ (dg_ B) n (s + k) = sk_ (dg_ B) n s → mm_W 2 M_Re_number 0 0 (fun v h' => v = some (.int (if 4 < sk_ (dg_ B) n s - s then -23 else nv_ B s (sk_ (dg_ B) n s - s))) ∧ ∃ g', h' = (hp_SH ++ dy, g', r) ∧ fr_ f3_ g g' ∧ g' 31 2 = nI s ∧ g' 31 3 = nI (sk_ (dg_ B) n s)) 0 0 (2, [some (.ref 31), some (.int (nv_ B s k))], [], (hp_SH ++ dy, g1, r)) := by
  intro m
  induction m with
  | zero =>
    intro k g1 hm hk hF h12 h13 hsk
    have hP1 := hF.nr f3_nr hP
    have e1 : g1 31 1 = nI n := by rw [nr_at hP1 31 1 rfl]; exact hN
    refine mm_B ok_Re_number 2 4 (10, [some (.ref 31), some (.int (nv_ B s k))], [.int (g1 31 1), .int (g1 31 3)], (hp_SH ++ dy, g1, r)) [] rfl trivial ?_
    rw [h13]
    rw [e1]
    refine mm_I ok_Re_number 6 0 10 [some (.ref 31), some (.int (nv_ B s k))] [.int (nI n), .int (nI (s + k))] (hp_SH ++ dy, g1, r) [] rfl trivial rfl rfl (fun _ => ?_) (fun q => False.elim (q (nI_le (by omega) (by omega))))
    have e9 : sk_ (dg_ B) n s = s + k := by rw [← hsk]; exact sk_ge (by omega)
    refine mm_B ok_Re_number 33 6 (69, [some (.ref 31), some (.int (nv_ B s k))], [.int 4, .int ((g1 31 3) - (g1 31 2))], (hp_SH ++ dy, g1, r)) [] rfl trivial ?_
    rw [h13, h12, nI_sub (by omega), show s + k - s = k by omega]
    refine mm_I ok_Re_number 39 0 69 [some (.ref 31), some (.int (nv_ B s k))] [.int 4, .int (nI k)] (hp_SH ++ dy, g1, r) [] rfl trivial rfl rfl (fun q => ?_) (fun q => ?_)
    · have q2 : ¬ 4 < k := fun e => absurd q (Int32.not_le.mpr (nI_lt (a := 4) e (by omega)))
      refine mm_B ok_Re_number 42 1 (78, [some (.ref 31), some (.int (nv_ B s k))], [.int (nv_ B s k)], (hp_SH ++ dy, g1, r)) [] rfl trivial ?_
      exact mm_ri rfl (mm_at ok_Re_number (i := 43) rfl).1 ⟨Nat.le_refl _, Nat.le_refl _⟩ (⟨by rw [e9, show s + k - s = k by omega, if_neg q2], g1, rfl, hF, h12, by rw [e9]; exact h13⟩)
    · have q2 : 4 < k := Nat.not_le.mp (fun e => q (nI_le (b := 4) e (by omega)))
      refine mm_B ok_Re_number 40 2 (78, [some (.ref 31), some (.int (nv_ B s k))], [.int (-23)], (hp_SH ++ dy, g1, r)) [] rfl trivial ?_
      exact mm_ri rfl (mm_at ok_Re_number (i := 43) rfl).1 ⟨Nat.le_refl _, Nat.le_refl _⟩ (⟨by rw [e9, show s + k - s = k by omega, if_pos q2], g1, rfl, hF, h12, by rw [e9]; exact h13⟩)
  | succ m ih =>
    intro k g1 hm hk hF h12 h13 hsk
    by_cases hkn : s + k = n
    · exact ih k g1 (by omega) hk hF h12 h13 hsk
    have hP1 := hF.nr f3_nr hP
    have e1 : g1 31 1 = nI n := by rw [nr_at hP1 31 1 rfl]; exact hN
    have eb : g1 32 (nI (s + k)).toNatClampNeg = B (s + k) := by rw [nI_clamp (by omega), nr_at hP1 32 _ rfl]; exact hB _ (by omega)
    refine mm_B ok_Re_number 2 4 (10, [some (.ref 31), some (.int (nv_ B s k))], [.int (g1 31 1), .int (g1 31 3)], (hp_SH ++ dy, g1, r)) [] rfl trivial ?_
    rw [h13]
    rw [e1]
    refine mm_I ok_Re_number 6 0 10 [some (.ref 31), some (.int (nv_ B s k))] [.int (nI n), .int (nI (s + k))] (hp_SH ++ dy, g1, r) [] rfl trivial rfl rfl (fun q => False.elim (nI_ge (show s + k < n by omega) (by omega) q)) (fun _ => ?_)
    refine mm_B ok_Re_number 7 5 (22, [some (.ref 31), some (.int (nv_ B s k))], [.int (g1 32 ((g1 31 3).toNatClampNeg))], (hp_SH ++ dy, g1, r)) [vp_in (g1 31 3) 160] rfl (show vp_in (g1 31 3) 160 from (by rw [h13]; exact nI_vi (by omega) (by decide))) ?_
    rw [h13]
    rw [eb]
    refine mm_cS (as := [.int (B (s + k))]) (st := []) cw_Re_isDigit lk_Re_78 sx_Re_isDigit (mm_at ok_Re_number (i := 12) rfl).1 (ct_Re_isDigit (hp_SH ++ dy, g1, r) (B (s + k))) (by decide) ⟨by omega, by omega⟩ (Nat.le_of_ble_eq_true rfl) (mm_vs_b (b := 77) rfl (hp_len dy)) (fun v h' hqq => ?_)
    obtain ⟨rfl, hqe⟩ := hqq; rw [hqe]
    by_cases hd : dg_ B (s + k) = true
    · have hd1 : f_Re_isDigit (B (s + k)) = 1 := of_decide_eq_true hd
      rw [hd1]
      refine mm_I ok_Re_number 13 0 25 [some (.ref 31), some (.int (nv_ B s k))] [.int 1] (hp_SH ++ dy, g1, r) [] rfl trivial rfl rfl (fun q => False.elim (absurd q (by decide))) (fun _ => ?_)
      refine mm_B ok_Re_number 14 19 (2, [some (.ref 31), some (.int ((((nv_ B s k) * 10) + (g1 32 ((g1 31 3).toNatClampNeg))) - 48))], [], (hp_SH ++ dy, mm_up g1 31 3 ((g1 31 3) + 1), r)) [vp_in (g1 31 3) 160] rfl (show vp_in (g1 31 3) 160 from (by rw [h13]; exact nI_vi (by omega) (by decide))) ?_
      rw [h13]
      rw [eb, nI_1]
      exact ih (k + 1) (mm_up g1 31 3 (nI (s + k + 1))) (by omega) (by omega) (hF.up _ rfl) h12 rfl (by rw [← hsk, sk_T hd (by omega)]; rfl)
    · have hd1 : f_Re_isDigit (B (s + k)) = 0 := (zo_Re_isDigit _).resolve_right (fun e => hd (decide_eq_true e))
      rw [hd1]
      refine mm_I ok_Re_number 13 0 25 [some (.ref 31), some (.int (nv_ B s k))] [.int 0] (hp_SH ++ dy, g1, r) [] rfl trivial rfl rfl (fun _ => ?_) (fun q => False.elim (q rfl))
      have e9 : sk_ (dg_ B) n s = s + k := by rw [← hsk]; exact sk_F (by simpa using hd)
      refine mm_B ok_Re_number 33 6 (69, [some (.ref 31), some (.int (nv_ B s k))], [.int 4, .int ((g1 31 3) - (g1 31 2))], (hp_SH ++ dy, g1, r)) [] rfl trivial ?_
      rw [h13, h12, nI_sub (by omega), show s + k - s = k by omega]
      refine mm_I ok_Re_number 39 0 69 [some (.ref 31), some (.int (nv_ B s k))] [.int 4, .int (nI k)] (hp_SH ++ dy, g1, r) [] rfl trivial rfl rfl (fun q => ?_) (fun q => ?_)
      · have q2 : ¬ 4 < k := fun e => absurd q (Int32.not_le.mpr (nI_lt (a := 4) e (by omega)))
        refine mm_B ok_Re_number 42 1 (78, [some (.ref 31), some (.int (nv_ B s k))], [.int (nv_ B s k)], (hp_SH ++ dy, g1, r)) [] rfl trivial ?_
        exact mm_ri rfl (mm_at ok_Re_number (i := 43) rfl).1 ⟨Nat.le_refl _, Nat.le_refl _⟩ (⟨by rw [e9, show s + k - s = k by omega, if_neg q2], g1, rfl, hF, h12, by rw [e9]; exact h13⟩)
      · have q2 : 4 < k := Nat.not_le.mp (fun e => q (nI_le (b := 4) e (by omega)))
        refine mm_B ok_Re_number 40 2 (78, [some (.ref 31), some (.int (nv_ B s k))], [.int (-23)], (hp_SH ++ dy, g1, r)) [] rfl trivial ?_
        exact mm_ri rfl (mm_at ok_Re_number (i := 43) rfl).1 ⟨Nat.le_refl _, Nat.le_refl _⟩ (⟨by rw [e9, show s + k - s = k by omega, if_pos q2], g1, rfl, hF, h12, by rw [e9]; exact h13⟩)
end
