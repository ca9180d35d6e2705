section
-- ===== PART A: goes FIRST, ahead of the names: the tables' words, and 'selects' of the private methods out of them =====
/-- a private method of a class that the tables say can be made, by its rows of tables_1 -/
def lw_okq (q : MethodName × Nat) : Prop := (q.1.cls ≠ "java/lang/invoke/MethodHandle" ∧ q.1.cls ≠ "java/lang/invoke/VarHandle") ∧ Cond.instantiable q.1.cls q.2 ∈ tables_1 ∧ Cond.privateMethod q.1 ∈ tables_1 ∧ Cond.instanceMethod q.1 ∈ tables_1
theorem lw_p0 : lw_okq (⟨"RunColumns$Rows", "putLast", "(II)V"⟩, 2) := ⟨⟨by decide +kernel, by decide +kernel⟩, List.mem_of_getElem? (i := 35) (by decide +kernel), List.mem_of_getElem? (i := 284) (by decide +kernel), List.mem_of_getElem? (i := 285) (by decide +kernel)⟩
theorem lw_p1 : lw_okq (⟨"RunColumns$Reader", "readEither", "(LRunColumns$Query;I)V"⟩, 4) := ⟨⟨by decide +kernel, by decide +kernel⟩, List.mem_of_getElem? (i := 116) (by decide +kernel), List.mem_of_getElem? (i := 389) (by decide +kernel), List.mem_of_getElem? (i := 390) (by decide +kernel)⟩
theorem lw_p2 : lw_okq (⟨"RunColumns$Reader", "readBoth", "(LRunColumns$Query;I)V"⟩, 4) := ⟨⟨by decide +kernel, by decide +kernel⟩, List.mem_of_getElem? (i := 116) (by decide +kernel), List.mem_of_getElem? (i := 393) (by decide +kernel), List.mem_of_getElem? (i := 394) (by decide +kernel)⟩
theorem lw_p3 : lw_okq (⟨"RunColumns$Reader", "readFactor", "(LRunColumns$Query;I)V"⟩, 4) := ⟨⟨by decide +kernel, by decide +kernel⟩, List.mem_of_getElem? (i := 116) (by decide +kernel), List.mem_of_getElem? (i := 397) (by decide +kernel), List.mem_of_getElem? (i := 398) (by decide +kernel)⟩
theorem lw_p4 : lw_okq (⟨"RunColumns$Reader", "isWordAt", "(ILjava/lang/String;)Z"⟩, 4) := ⟨⟨by decide +kernel, by decide +kernel⟩, List.mem_of_getElem? (i := 116) (by decide +kernel), List.mem_of_getElem? (i := 402) (by decide +kernel), List.mem_of_getElem? (i := 403) (by decide +kernel)⟩
theorem lw_p5 : lw_okq (⟨"RunColumns$Reader", "signAt", "(I)I"⟩, 4) := ⟨⟨by decide +kernel, by decide +kernel⟩, List.mem_of_getElem? (i := 116) (by decide +kernel), List.mem_of_getElem? (i := 416) (by decide +kernel), List.mem_of_getElem? (i := 417) (by decide +kernel)⟩
theorem lw_p6 : lw_okq (⟨"RunColumns$Reader", "blame", "(I)V"⟩, 4) := ⟨⟨by decide +kernel, by decide +kernel⟩, List.mem_of_getElem? (i := 116) (by decide +kernel), List.mem_of_getElem? (i := 461) (by decide +kernel), List.mem_of_getElem? (i := 462) (by decide +kernel)⟩
theorem lw_p7 : lw_okq (⟨"RunColumns$Reader", "passWord", "(Ljava/lang/String;)V"⟩, 4) := ⟨⟨by decide +kernel, by decide +kernel⟩, List.mem_of_getElem? (i := 116) (by decide +kernel), List.mem_of_getElem? (i := 465) (by decide +kernel), List.mem_of_getElem? (i := 466) (by decide +kernel)⟩
theorem lw_p8 : lw_okq (⟨"RunColumns$Reader", "pass", "(C)V"⟩, 4) := ⟨⟨by decide +kernel, by decide +kernel⟩, List.mem_of_getElem? (i := 116) (by decide +kernel), List.mem_of_getElem? (i := 469) (by decide +kernel), List.mem_of_getElem? (i := 470) (by decide +kernel)⟩
theorem lw_p9 : lw_okq (⟨"RunColumns$Reader", "passClosing", "()V"⟩, 4) := ⟨⟨by decide +kernel, by decide +kernel⟩, List.mem_of_getElem? (i := 116) (by decide +kernel), List.mem_of_getElem? (i := 481) (by decide +kernel), List.mem_of_getElem? (i := 482) (by decide +kernel)⟩
theorem lw_p10 : lw_okq (⟨"RunColumns$Reader", "blameWhatFollows", "()V"⟩, 4) := ⟨⟨by decide +kernel, by decide +kernel⟩, List.mem_of_getElem? (i := 116) (by decide +kernel), List.mem_of_getElem? (i := 485) (by decide +kernel), List.mem_of_getElem? (i := 486) (by decide +kernel)⟩
theorem lw_p11 : lw_okq (⟨"RunColumns$Reader", "readQuestion", "(LRunColumns$Query;)V"⟩, 4) := ⟨⟨by decide +kernel, by decide +kernel⟩, List.mem_of_getElem? (i := 116) (by decide +kernel), List.mem_of_getElem? (i := 491) (by decide +kernel), List.mem_of_getElem? (i := 492) (by decide +kernel)⟩
theorem lw_p12 : lw_okq (⟨"RunColumns$Reader", "passColumn", "()I"⟩, 4) := ⟨⟨by decide +kernel, by decide +kernel⟩, List.mem_of_getElem? (i := 116) (by decide +kernel), List.mem_of_getElem? (i := 495) (by decide +kernel), List.mem_of_getElem? (i := 496) (by decide +kernel)⟩
theorem lw_p13 : lw_okq (⟨"RunColumns$Reader", "passSort", "()I"⟩, 4) := ⟨⟨by decide +kernel, by decide +kernel⟩, List.mem_of_getElem? (i := 116) (by decide +kernel), List.mem_of_getElem? (i := 499) (by decide +kernel), List.mem_of_getElem? (i := 500) (by decide +kernel)⟩
theorem lw_p14 : lw_okq (⟨"RunColumns$Reader", "passValue", "()I"⟩, 4) := ⟨⟨by decide +kernel, by decide +kernel⟩, List.mem_of_getElem? (i := 116) (by decide +kernel), List.mem_of_getElem? (i := 506) (by decide +kernel), List.mem_of_getElem? (i := 507) (by decide +kernel)⟩
theorem lw_p15 : lw_okq (⟨"RunColumns$Reader", "isJoinedBy", "(Ljava/lang/String;)Z"⟩, 4) := ⟨⟨by decide +kernel, by decide +kernel⟩, List.mem_of_getElem? (i := 116) (by decide +kernel), List.mem_of_getElem? (i := 514) (by decide +kernel), List.mem_of_getElem? (i := 515) (by decide +kernel)⟩
def lw_privs_1 : List (MethodName × Nat) := [(⟨"RunColumns$Rows", "putLast", "(II)V"⟩, 2), (⟨"RunColumns$Reader", "readEither", "(LRunColumns$Query;I)V"⟩, 4), (⟨"RunColumns$Reader", "readBoth", "(LRunColumns$Query;I)V"⟩, 4), (⟨"RunColumns$Reader", "readFactor", "(LRunColumns$Query;I)V"⟩, 4), (⟨"RunColumns$Reader", "isWordAt", "(ILjava/lang/String;)Z"⟩, 4), (⟨"RunColumns$Reader", "signAt", "(I)I"⟩, 4), (⟨"RunColumns$Reader", "blame", "(I)V"⟩, 4), (⟨"RunColumns$Reader", "passWord", "(Ljava/lang/String;)V"⟩, 4), (⟨"RunColumns$Reader", "pass", "(C)V"⟩, 4), (⟨"RunColumns$Reader", "passClosing", "()V"⟩, 4), (⟨"RunColumns$Reader", "blameWhatFollows", "()V"⟩, 4), (⟨"RunColumns$Reader", "readQuestion", "(LRunColumns$Query;)V"⟩, 4), (⟨"RunColumns$Reader", "passColumn", "()I"⟩, 4), (⟨"RunColumns$Reader", "passSort", "()I"⟩, 4), (⟨"RunColumns$Reader", "passValue", "()I"⟩, 4), (⟨"RunColumns$Reader", "isJoinedBy", "(Ljava/lang/String;)Z"⟩, 4)]
theorem lw_r1 : ∀ q ∈ lw_privs_1, lw_okq q := List.forall_mem_cons.mpr ⟨lw_p0, List.forall_mem_cons.mpr ⟨lw_p1, List.forall_mem_cons.mpr ⟨lw_p2, List.forall_mem_cons.mpr ⟨lw_p3, List.forall_mem_cons.mpr ⟨lw_p4, List.forall_mem_cons.mpr ⟨lw_p5, List.forall_mem_cons.mpr ⟨lw_p6, List.forall_mem_cons.mpr ⟨lw_p7, List.forall_mem_cons.mpr ⟨lw_p8, List.forall_mem_cons.mpr ⟨lw_p9, List.forall_mem_cons.mpr ⟨lw_p10, List.forall_mem_cons.mpr ⟨lw_p11, List.forall_mem_cons.mpr ⟨lw_p12, List.forall_mem_cons.mpr ⟨lw_p13, List.forall_mem_cons.mpr ⟨lw_p14, List.forall_mem_cons.mpr ⟨lw_p15, fun _ h => absurd h List.not_mem_nil⟩⟩⟩⟩⟩⟩⟩⟩⟩⟩⟩⟩⟩⟩⟩⟩
theorem lw_p16 : lw_okq (⟨"RunColumns$Reader", "passJoin", "(Ljava/lang/String;)V"⟩, 4) := ⟨⟨by decide +kernel, by decide +kernel⟩, List.mem_of_getElem? (i := 116) (by decide +kernel), List.mem_of_getElem? (i := 518) (by decide +kernel), List.mem_of_getElem? (i := 519) (by decide +kernel)⟩
theorem lw_p17 : lw_okq (⟨"RunColumns", "isQuery", "(I)Z"⟩, 12) := ⟨⟨by decide +kernel, by decide +kernel⟩, List.mem_of_getElem? (i := 21) (by decide +kernel), List.mem_of_getElem? (i := 527) (by decide +kernel), List.mem_of_getElem? (i := 528) (by decide +kernel)⟩
theorem lw_p18 : lw_okq (⟨"RunColumns$Work", "turn", "(LRunColumns$Rows;)V"⟩, 4) := ⟨⟨by decide +kernel, by decide +kernel⟩, List.mem_of_getElem? (i := 141) (by decide +kernel), List.mem_of_getElem? (i := 535) (by decide +kernel), List.mem_of_getElem? (i := 536) (by decide +kernel)⟩
theorem lw_p19 : lw_okq (⟨"RunColumns$Work", "join", "(ILRunColumns$Rows;)V"⟩, 4) := ⟨⟨by decide +kernel, by decide +kernel⟩, List.mem_of_getElem? (i := 141) (by decide +kernel), List.mem_of_getElem? (i := 544) (by decide +kernel), List.mem_of_getElem? (i := 545) (by decide +kernel)⟩
theorem lw_p20 : lw_okq (⟨"RunColumns$Work", "ask", "(LRunColumns$Query;ILRunColumns$Rows;)V"⟩, 4) := ⟨⟨by decide +kernel, by decide +kernel⟩, List.mem_of_getElem? (i := 141) (by decide +kernel), List.mem_of_getElem? (i := 560) (by decide +kernel), List.mem_of_getElem? (i := 561) (by decide +kernel)⟩
theorem lw_p21 : lw_okq (⟨"RunColumns", "resultOf", "(I)LRunColumns$Bits;"⟩, 12) := ⟨⟨by decide +kernel, by decide +kernel⟩, List.mem_of_getElem? (i := 21) (by decide +kernel), List.mem_of_getElem? (i := 607) (by decide +kernel), List.mem_of_getElem? (i := 608) (by decide +kernel)⟩
theorem lw_p22 : lw_okq (⟨"RunColumns$State", "tryStep", "(IILRunColumns$Rows;)V"⟩, 6) := ⟨⟨by decide +kernel, by decide +kernel⟩, List.mem_of_getElem? (i := 29) (by decide +kernel), List.mem_of_getElem? (i := 713) (by decide +kernel), List.mem_of_getElem? (i := 714) (by decide +kernel)⟩
theorem lw_p23 : lw_okq (⟨"RunColumnsModel", "comes", "(IIII)I"⟩, 23) := ⟨⟨by decide +kernel, by decide +kernel⟩, List.mem_of_getElem? (i := 813) (by decide +kernel), List.mem_of_getElem? (i := 898) (by decide +kernel), List.mem_of_getElem? (i := 899) (by decide +kernel)⟩
theorem lw_p24 : lw_okq (⟨"RunColumnsModel", "isRow", "(I)Z"⟩, 23) := ⟨⟨by decide +kernel, by decide +kernel⟩, List.mem_of_getElem? (i := 813) (by decide +kernel), List.mem_of_getElem? (i := 906) (by decide +kernel), List.mem_of_getElem? (i := 907) (by decide +kernel)⟩
theorem lw_p25 : lw_okq (⟨"RunColumnsModel", "runsOf", "(II)I"⟩, 23) := ⟨⟨by decide +kernel, by decide +kernel⟩, List.mem_of_getElem? (i := 813) (by decide +kernel), List.mem_of_getElem? (i := 922) (by decide +kernel), List.mem_of_getElem? (i := 923) (by decide +kernel)⟩
theorem lw_p26 : lw_okq (⟨"RunColumnsModel", "bit", "(III)Z"⟩, 23) := ⟨⟨by decide +kernel, by decide +kernel⟩, List.mem_of_getElem? (i := 813) (by decide +kernel), List.mem_of_getElem? (i := 926) (by decide +kernel), List.mem_of_getElem? (i := 927) (by decide +kernel)⟩
theorem lw_p27 : lw_okq (⟨"RunColumnsModel", "isOnes", "(III)Z"⟩, 23) := ⟨⟨by decide +kernel, by decide +kernel⟩, List.mem_of_getElem? (i := 813) (by decide +kernel), List.mem_of_getElem? (i := 934) (by decide +kernel), List.mem_of_getElem? (i := 935) (by decide +kernel)⟩
theorem lw_p28 : lw_okq (⟨"RunColumnsModel", "either", "(I)I"⟩, 23) := ⟨⟨by decide +kernel, by decide +kernel⟩, List.mem_of_getElem? (i := 813) (by decide +kernel), List.mem_of_getElem? (i := 946) (by decide +kernel), List.mem_of_getElem? (i := 947) (by decide +kernel)⟩
theorem lw_p29 : lw_okq (⟨"RunColumnsModel", "both", "(I)I"⟩, 23) := ⟨⟨by decide +kernel, by decide +kernel⟩, List.mem_of_getElem? (i := 813) (by decide +kernel), List.mem_of_getElem? (i := 950) (by decide +kernel), List.mem_of_getElem? (i := 951) (by decide +kernel)⟩
theorem lw_p30 : lw_okq (⟨"RunColumnsModel", "factor", "(I)I"⟩, 23) := ⟨⟨by decide +kernel, by decide +kernel⟩, List.mem_of_getElem? (i := 813) (by decide +kernel), List.mem_of_getElem? (i := 954) (by decide +kernel), List.mem_of_getElem? (i := 955) (by decide +kernel)⟩
theorem lw_p31 : lw_okq (⟨"RunColumnsModel", "signAt", "(I)I"⟩, 23) := ⟨⟨by decide +kernel, by decide +kernel⟩, List.mem_of_getElem? (i := 813) (by decide +kernel), List.mem_of_getElem? (i := 958) (by decide +kernel), List.mem_of_getElem? (i := 959) (by decide +kernel)⟩
def lw_privs_2 : List (MethodName × Nat) := [(⟨"RunColumns$Reader", "passJoin", "(Ljava/lang/String;)V"⟩, 4), (⟨"RunColumns", "isQuery", "(I)Z"⟩, 12), (⟨"RunColumns$Work", "turn", "(LRunColumns$Rows;)V"⟩, 4), (⟨"RunColumns$Work", "join", "(ILRunColumns$Rows;)V"⟩, 4), (⟨"RunColumns$Work", "ask", "(LRunColumns$Query;ILRunColumns$Rows;)V"⟩, 4), (⟨"RunColumns", "resultOf", "(I)LRunColumns$Bits;"⟩, 12), (⟨"RunColumns$State", "tryStep", "(IILRunColumns$Rows;)V"⟩, 6), (⟨"RunColumnsModel", "comes", "(IIII)I"⟩, 23), (⟨"RunColumnsModel", "isRow", "(I)Z"⟩, 23), (⟨"RunColumnsModel", "runsOf", "(II)I"⟩, 23), (⟨"RunColumnsModel", "bit", "(III)Z"⟩, 23), (⟨"RunColumnsModel", "isOnes", "(III)Z"⟩, 23), (⟨"RunColumnsModel", "either", "(I)I"⟩, 23), (⟨"RunColumnsModel", "both", "(I)I"⟩, 23), (⟨"RunColumnsModel", "factor", "(I)I"⟩, 23), (⟨"RunColumnsModel", "signAt", "(I)I"⟩, 23)]
theorem lw_r2 : ∀ q ∈ lw_privs_2, lw_okq q := List.forall_mem_cons.mpr ⟨lw_p16, List.forall_mem_cons.mpr ⟨lw_p17, List.forall_mem_cons.mpr ⟨lw_p18, List.forall_mem_cons.mpr ⟨lw_p19, List.forall_mem_cons.mpr ⟨lw_p20, List.forall_mem_cons.mpr ⟨lw_p21, List.forall_mem_cons.mpr ⟨lw_p22, List.forall_mem_cons.mpr ⟨lw_p23, List.forall_mem_cons.mpr ⟨lw_p24, List.forall_mem_cons.mpr ⟨lw_p25, List.forall_mem_cons.mpr ⟨lw_p26, List.forall_mem_cons.mpr ⟨lw_p27, List.forall_mem_cons.mpr ⟨lw_p28, List.forall_mem_cons.mpr ⟨lw_p29, List.forall_mem_cons.mpr ⟨lw_p30, List.forall_mem_cons.mpr ⟨lw_p31, fun _ h => absurd h List.not_mem_nil⟩⟩⟩⟩⟩⟩⟩⟩⟩⟩⟩⟩⟩⟩⟩⟩
theorem lw_p32 : lw_okq (⟨"RunColumnsModel", "wrong", "(I)V"⟩, 23) := ⟨⟨by decide +kernel, by decide +kernel⟩, List.mem_of_getElem? (i := 813) (by decide +kernel), List.mem_of_getElem? (i := 962) (by decide +kernel), List.mem_of_getElem? (i := 963) (by decide +kernel)⟩
theorem lw_p33 : lw_okq (⟨"RunColumnsModel", "must", "(I)V"⟩, 23) := ⟨⟨by decide +kernel, by decide +kernel⟩, List.mem_of_getElem? (i := 813) (by decide +kernel), List.mem_of_getElem? (i := 966) (by decide +kernel), List.mem_of_getElem? (i := 967) (by decide +kernel)⟩
theorem lw_p34 : lw_okq (⟨"RunColumnsModel", "word", "()I"⟩, 23) := ⟨⟨by decide +kernel, by decide +kernel⟩, List.mem_of_getElem? (i := 813) (by decide +kernel), List.mem_of_getElem? (i := 970) (by decide +kernel), List.mem_of_getElem? (i := 971) (by decide +kernel)⟩
theorem lw_p35 : lw_okq (⟨"RunColumnsModel", "wordEnd", "()I"⟩, 23) := ⟨⟨by decide +kernel, by decide +kernel⟩, List.mem_of_getElem? (i := 813) (by decide +kernel), List.mem_of_getElem? (i := 974) (by decide +kernel), List.mem_of_getElem? (i := 975) (by decide +kernel)⟩
theorem lw_p36 : lw_okq (⟨"RunColumnsModel", "node", "(IIIIII)I"⟩, 23) := ⟨⟨by decide +kernel, by decide +kernel⟩, List.mem_of_getElem? (i := 813) (by decide +kernel), List.mem_of_getElem? (i := 979) (by decide +kernel), List.mem_of_getElem? (i := 980) (by decide +kernel)⟩
theorem lw_p37 : lw_okq (⟨"RunColumnsModel", "columnHere", "(I)I"⟩, 23) := ⟨⟨by decide +kernel, by decide +kernel⟩, List.mem_of_getElem? (i := 813) (by decide +kernel), List.mem_of_getElem? (i := 983) (by decide +kernel), List.mem_of_getElem? (i := 984) (by decide +kernel)⟩
theorem lw_p38 : lw_okq (⟨"RunColumnsModel", "value", "()I"⟩, 23) := ⟨⟨by decide +kernel, by decide +kernel⟩, List.mem_of_getElem? (i := 813) (by decide +kernel), List.mem_of_getElem? (i := 988) (by decide +kernel), List.mem_of_getElem? (i := 989) (by decide +kernel)⟩
theorem lw_p39 : lw_okq (⟨"RunColumnsModel", "follows", "(I)Z"⟩, 23) := ⟨⟨by decide +kernel, by decide +kernel⟩, List.mem_of_getElem? (i := 813) (by decide +kernel), List.mem_of_getElem? (i := 992) (by decide +kernel), List.mem_of_getElem? (i := 993) (by decide +kernel)⟩
theorem lw_p40 : lw_okq (⟨"RunColumnsModel", "isQuery", "(I)Z"⟩, 23) := ⟨⟨by decide +kernel, by decide +kernel⟩, List.mem_of_getElem? (i := 813) (by decide +kernel), List.mem_of_getElem? (i := 1000) (by decide +kernel), List.mem_of_getElem? (i := 1001) (by decide +kernel)⟩
theorem lw_p41 : lw_okq (⟨"RunColumnsModel", "resultMany", "(I)I"⟩, 23) := ⟨⟨by decide +kernel, by decide +kernel⟩, List.mem_of_getElem? (i := 813) (by decide +kernel), List.mem_of_getElem? (i := 1004) (by decide +kernel), List.mem_of_getElem? (i := 1005) (by decide +kernel)⟩
theorem lw_p42 : lw_okq (⟨"RunColumnsModel", "isSo", "(II)Z"⟩, 23) := ⟨⟨by decide +kernel, by decide +kernel⟩, List.mem_of_getElem? (i := 813) (by decide +kernel), List.mem_of_getElem? (i := 1008) (by decide +kernel), List.mem_of_getElem? (i := 1009) (by decide +kernel)⟩
theorem lw_p43 : lw_okq (⟨"RunColumnsModel", "resultRuns", "(I)I"⟩, 23) := ⟨⟨by decide +kernel, by decide +kernel⟩, List.mem_of_getElem? (i := 813) (by decide +kernel), List.mem_of_getElem? (i := 1012) (by decide +kernel), List.mem_of_getElem? (i := 1013) (by decide +kernel)⟩
theorem lw_p44 : lw_okq (⟨"RunColumnsModel", "cost", "(I)I"⟩, 23) := ⟨⟨by decide +kernel, by decide +kernel⟩, List.mem_of_getElem? (i := 813) (by decide +kernel), List.mem_of_getElem? (i := 1016) (by decide +kernel), List.mem_of_getElem? (i := 1017) (by decide +kernel)⟩
theorem lw_p45 : lw_okq (⟨"RunColumnsModel", "rowAt", "(II)I"⟩, 23) := ⟨⟨by decide +kernel, by decide +kernel⟩, List.mem_of_getElem? (i := 813) (by decide +kernel), List.mem_of_getElem? (i := 1020) (by decide +kernel), List.mem_of_getElem? (i := 1021) (by decide +kernel)⟩
theorem lw_p46 : lw_okq (⟨"RunColumnsModel", "sortsIn", "(IZ)I"⟩, 23) := ⟨⟨by decide +kernel, by decide +kernel⟩, List.mem_of_getElem? (i := 813) (by decide +kernel), List.mem_of_getElem? (i := 1024) (by decide +kernel), List.mem_of_getElem? (i := 1025) (by decide +kernel)⟩
theorem lw_p47 : lw_okq (⟨"RunColumnsModel", "deepOf", "(I)I"⟩, 23) := ⟨⟨by decide +kernel, by decide +kernel⟩, List.mem_of_getElem? (i := 813) (by decide +kernel), List.mem_of_getElem? (i := 1028) (by decide +kernel), List.mem_of_getElem? (i := 1029) (by decide +kernel)⟩
def lw_privs_3 : List (MethodName × Nat) := [(⟨"RunColumnsModel", "wrong", "(I)V"⟩, 23), (⟨"RunColumnsModel", "must", "(I)V"⟩, 23), (⟨"RunColumnsModel", "word", "()I"⟩, 23), (⟨"RunColumnsModel", "wordEnd", "()I"⟩, 23), (⟨"RunColumnsModel", "node", "(IIIIII)I"⟩, 23), (⟨"RunColumnsModel", "columnHere", "(I)I"⟩, 23), (⟨"RunColumnsModel", "value", "()I"⟩, 23), (⟨"RunColumnsModel", "follows", "(I)Z"⟩, 23), (⟨"RunColumnsModel", "isQuery", "(I)Z"⟩, 23), (⟨"RunColumnsModel", "resultMany", "(I)I"⟩, 23), (⟨"RunColumnsModel", "isSo", "(II)Z"⟩, 23), (⟨"RunColumnsModel", "resultRuns", "(I)I"⟩, 23), (⟨"RunColumnsModel", "cost", "(I)I"⟩, 23), (⟨"RunColumnsModel", "rowAt", "(II)I"⟩, 23), (⟨"RunColumnsModel", "sortsIn", "(IZ)I"⟩, 23), (⟨"RunColumnsModel", "deepOf", "(I)I"⟩, 23)]
theorem lw_r3 : ∀ q ∈ lw_privs_3, lw_okq q := List.forall_mem_cons.mpr ⟨lw_p32, List.forall_mem_cons.mpr ⟨lw_p33, List.forall_mem_cons.mpr ⟨lw_p34, List.forall_mem_cons.mpr ⟨lw_p35, List.forall_mem_cons.mpr ⟨lw_p36, List.forall_mem_cons.mpr ⟨lw_p37, List.forall_mem_cons.mpr ⟨lw_p38, List.forall_mem_cons.mpr ⟨lw_p39, List.forall_mem_cons.mpr ⟨lw_p40, List.forall_mem_cons.mpr ⟨lw_p41, List.forall_mem_cons.mpr ⟨lw_p42, List.forall_mem_cons.mpr ⟨lw_p43, List.forall_mem_cons.mpr ⟨lw_p44, List.forall_mem_cons.mpr ⟨lw_p45, List.forall_mem_cons.mpr ⟨lw_p46, List.forall_mem_cons.mpr ⟨lw_p47, fun _ h => absurd h List.not_mem_nil⟩⟩⟩⟩⟩⟩⟩⟩⟩⟩⟩⟩⟩⟩⟩⟩
theorem lw_p48 : lw_okq (⟨"RunColumnsModel", "grouped", "(II)V"⟩, 23) := ⟨⟨by decide +kernel, by decide +kernel⟩, List.mem_of_getElem? (i := 813) (by decide +kernel), List.mem_of_getElem? (i := 1040) (by decide +kernel), List.mem_of_getElem? (i := 1041) (by decide +kernel)⟩
theorem lw_p49 : lw_okq (⟨"RunColumnsModel", "isSeen", "(II)Z"⟩, 23) := ⟨⟨by decide +kernel, by decide +kernel⟩, List.mem_of_getElem? (i := 813) (by decide +kernel), List.mem_of_getElem? (i := 1060) (by decide +kernel), List.mem_of_getElem? (i := 1061) (by decide +kernel)⟩
theorem lw_p50 : lw_okq (⟨"RunColumnsModel", "does", "(II)V"⟩, 23) := ⟨⟨by decide +kernel, by decide +kernel⟩, List.mem_of_getElem? (i := 813) (by decide +kernel), List.mem_of_getElem? (i := 1090) (by decide +kernel), List.mem_of_getElem? (i := 1091) (by decide +kernel)⟩
def lw_privs_4 : List (MethodName × Nat) := [(⟨"RunColumnsModel", "grouped", "(II)V"⟩, 23), (⟨"RunColumnsModel", "isSeen", "(II)Z"⟩, 23), (⟨"RunColumnsModel", "does", "(II)V"⟩, 23)]
theorem lw_r4 : ∀ q ∈ lw_privs_4, lw_okq q := List.forall_mem_cons.mpr ⟨lw_p48, List.forall_mem_cons.mpr ⟨lw_p49, List.forall_mem_cons.mpr ⟨lw_p50, fun _ h => absurd h List.not_mem_nil⟩⟩⟩
def lw_privs : List (MethodName × Nat) := lw_privs_1 ++ (lw_privs_2 ++ (lw_privs_3 ++ (lw_privs_4)))
def lw_tbl : List Cond := k2_sels lw_privs ++ tables_1
theorem lw_privs_ok : ∀ q ∈ lw_privs, lw_okq q := by
  show ∀ q ∈ lw_privs_1 ++ (lw_privs_2 ++ (lw_privs_3 ++ (lw_privs_4))), lw_okq q
  exact List.forall_mem_append.mpr ⟨lw_r1, List.forall_mem_append.mpr ⟨lw_r2, List.forall_mem_append.mpr ⟨lw_r3, lw_r4⟩⟩⟩
-- ===== end of PART A; then your names; then what follows =====
def RX0 : String := "RunColumns$Bits"
def TX0 : u_T := fun k => match k with
  | 0 => ("RunColumns$Bits", "low", "J", false)
  | _ => ("RunColumns$Bits", "high", "J", false)
def tyX0 : Nat → FieldType := fun k => match k with
  | 0 => .long
  | _ => .long
abbrev wsX00 : List Cond := u_ws RX0 TX0 2
theorem nmX0 : ∀ a, a < 2 → ∀ b, b < 2 → a ≠ b → (TX0 a).2.1 ≠ (TX0 b).2.1 := by decide +kernel
theorem tyX0_ok : ∀ k, k < 2 → parseFieldDescriptor (TX0 k).2.2.1 = some (tyX0 k) := by decide +kernel
abbrev cX0_init : ByteArray := prog_2_method_1_code
def yX0_init : MethodName := ⟨RX0, "<init>", "()V"⟩
abbrev cX0_firstOnes : ByteArray := prog_2_method_2_code
def yX0_firstOnes : MethodName := ⟨RX0, "firstOnes", "(I)J"⟩
abbrev cX0_has : ByteArray := prog_2_method_3_code
def yX0_has : MethodName := ⟨RX0, "has", "(I)Z"⟩
abbrev cX0_put : ByteArray := prog_2_method_4_code
def yX0_put : MethodName := ⟨RX0, "put", "(I)V"⟩
abbrev cX0_become : ByteArray := prog_2_method_5_code
def yX0_become : MethodName := ⟨RX0, "become", "(LRunColumns$Bits;)V"⟩
abbrev cX0_becomeOnes : ByteArray := prog_2_method_6_code
def yX0_becomeOnes : MethodName := ⟨RX0, "becomeOnes", "(I)V"⟩
abbrev cX0_becomeZeros : ByteArray := prog_2_method_7_code
def yX0_becomeZeros : MethodName := ⟨RX0, "becomeZeros", "()V"⟩
abbrev cX0_cutTo : ByteArray := prog_2_method_8_code
def yX0_cutTo : MethodName := ⟨RX0, "cutTo", "(I)V"⟩
abbrev cX0_turn : ByteArray := prog_2_method_9_code
def yX0_turn : MethodName := ⟨RX0, "turn", "(I)V"⟩
abbrev cX0_keepThoseOf : ByteArray := prog_2_method_10_code
def yX0_keepThoseOf : MethodName := ⟨RX0, "keepThoseOf", "(LRunColumns$Bits;)V"⟩
abbrev cX0_takeThoseOf : ByteArray := prog_2_method_11_code
def yX0_takeThoseOf : MethodName := ⟨RX0, "takeThoseOf", "(LRunColumns$Bits;)V"⟩
abbrev cX0_ones : ByteArray := prog_2_method_12_code
def yX0_ones : MethodName := ⟨RX0, "ones", "()I"⟩
abbrev cX0_runsWithin : ByteArray := prog_2_method_13_code
def yX0_runsWithin : MethodName := ⟨RX0, "runsWithin", "(I)I"⟩
abbrev cX0_endOfRun : ByteArray := prog_2_method_14_code
def yX0_endOfRun : MethodName := ⟨RX0, "endOfRun", "(II)I"⟩
abbrev cX0_startOfRun : ByteArray := prog_2_method_15_code
def yX0_startOfRun : MethodName := ⟨RX0, "startOfRun", "(II)I"⟩
abbrev cX0_placeOfOne : ByteArray := prog_2_method_16_code
def yX0_placeOfOne : MethodName := ⟨RX0, "placeOfOne", "(II)I"⟩
def RX1 : String := "RunColumns$Groups"
def TX1 : u_T := fun k => match k with
  | 0 => ("RunColumns$Groups", "inGroup", "LRunColumns$Bits;", true)
  | 1 => ("RunColumns$Groups", "sizes", "[I", true)
  | _ => ("RunColumns$Groups", "total", "I", false)
def tyX1 : Nat → FieldType := fun k => match k with
  | 0 => .object "RunColumns$Bits"
  | 1 => .array .int
  | _ => .int
abbrev wsX10 : List Cond := u_ws RX1 TX1 3
theorem nmX1 : ∀ a, a < 3 → ∀ b, b < 3 → a ≠ b → (TX1 a).2.1 ≠ (TX1 b).2.1 := by decide +kernel
theorem tyX1_ok : ∀ k, k < 3 → parseFieldDescriptor (TX1 k).2.2.1 = some (tyX1 k) := by decide +kernel
abbrev cX1_init : ByteArray := prog_3_method_1_code
def yX1_init : MethodName := ⟨RX1, "<init>", "()V"⟩
abbrev cX1_fill : ByteArray := prog_3_method_2_code
def yX1_fill : MethodName := ⟨RX1, "fill", "(LRunColumns$Bits;LRunColumns$Rows;I)V"⟩
abbrev cX1_sum : ByteArray := prog_3_method_3_code
def yX1_sum : MethodName := ⟨RX1, "sum", "()I"⟩
abbrev cX1_least : ByteArray := prog_3_method_4_code
def yX1_least : MethodName := ⟨RX1, "least", "()I"⟩
abbrev cX1_greatest : ByteArray := prog_3_method_5_code
def yX1_greatest : MethodName := ⟨RX1, "greatest", "()I"⟩
abbrev cX1_middle : ByteArray := prog_3_method_6_code
def yX1_middle : MethodName := ⟨RX1, "middle", "()I"⟩
abbrev cX1_unlike : ByteArray := prog_3_method_7_code
def yX1_unlike : MethodName := ⟨RX1, "unlike", "()I"⟩
abbrev cX1_greatestGroup : ByteArray := prog_3_method_8_code
def yX1_greatestGroup : MethodName := ⟨RX1, "greatestGroup", "()I"⟩
def RX2 : String := "RunColumns$Pairs"
def TX2 : u_T := fun k => match k with
  | 0 => ("RunColumns$Pairs", "most", "I", true)
  | 1 => ("RunColumns$Pairs", "firsts", "[I", true)
  | 2 => ("RunColumns$Pairs", "seconds", "[I", true)
  | _ => ("RunColumns$Pairs", "size", "I", false)
def tyX2 : Nat → FieldType := fun k => match k with
  | 0 => .int
  | 1 => .array .int
  | 2 => .array .int
  | _ => .int
abbrev wsX20 : List Cond := u_ws RX2 TX2 4
theorem nmX2 : ∀ a, a < 4 → ∀ b, b < 4 → a ≠ b → (TX2 a).2.1 ≠ (TX2 b).2.1 := by decide +kernel
theorem tyX2_ok : ∀ k, k < 4 → parseFieldDescriptor (TX2 k).2.2.1 = some (tyX2 k) := by decide +kernel
abbrev cX2_init : ByteArray := prog_4_method_1_code
def yX2_init : MethodName := ⟨RX2, "<init>", "(I)V"⟩
abbrev cX2_append : ByteArray := prog_4_method_2_code
def yX2_append : MethodName := ⟨RX2, "append", "(II)I"⟩
abbrev cX2_become : ByteArray := prog_4_method_3_code
def yX2_become : MethodName := ⟨RX2, "become", "(LRunColumns$Pairs;)V"⟩
def RX3 : String := "RunColumns$Query"
def TX3 : u_T := fun k => match k with
  | 0 => ("RunColumns$Query", "sorts", "[B", true)
  | 1 => ("RunColumns$Query", "columns", "[B", true)
  | 2 => ("RunColumns$Query", "leasts", "[B", true)
  | 3 => ("RunColumns$Query", "greatests", "[B", true)
  | _ => ("RunColumns$Query", "size", "I", false)
def tyX3 : Nat → FieldType := fun k => match k with
  | 0 => .array .byte
  | 1 => .array .byte
  | 2 => .array .byte
  | 3 => .array .byte
  | _ => .int
abbrev wsX30 : List Cond := u_ws RX3 TX3 5
theorem nmX3 : ∀ a, a < 5 → ∀ b, b < 5 → a ≠ b → (TX3 a).2.1 ≠ (TX3 b).2.1 := by decide +kernel
theorem tyX3_ok : ∀ k, k < 5 → parseFieldDescriptor (TX3 k).2.2.1 = some (tyX3 k) := by decide +kernel
abbrev cX3_init : ByteArray := prog_5_method_1_code
def yX3_init : MethodName := ⟨RX3, "<init>", "()V"⟩
abbrev cX3_appendJoin : ByteArray := prog_5_method_2_code
def yX3_appendJoin : MethodName := ⟨RX3, "appendJoin", "(I)V"⟩
abbrev cX3_appendLeaf : ByteArray := prog_5_method_3_code
def yX3_appendLeaf : MethodName := ⟨RX3, "appendLeaf", "(IIII)V"⟩
abbrev cX3_lastSort : ByteArray := prog_5_method_4_code
def yX3_lastSort : MethodName := ⟨RX3, "lastSort", "()I"⟩
abbrev cX3_stepsBetween : ByteArray := prog_5_method_5_code
def yX3_stepsBetween : MethodName := ⟨RX3, "stepsBetween", "(II)I"⟩
def RX4 : String := "RunColumns$Reader"
def TX4 : u_T := fun k => match k with
  | 0 => ("RunColumns$Reader", "signs", "[B", true)
  | 1 => ("RunColumns$Reader", "length", "I", false)
  | 2 => ("RunColumns$Reader", "place", "I", false)
  | _ => ("RunColumns$Reader", "fault", "I", false)
def tyX4 : Nat → FieldType := fun k => match k with
  | 0 => .array .byte
  | 1 => .int
  | 2 => .int
  | _ => .int
abbrev wsX40 : List Cond := u_ws RX4 TX4 4
theorem nmX4 : ∀ a, a < 4 → ∀ b, b < 4 → a ≠ b → (TX4 a).2.1 ≠ (TX4 b).2.1 := by decide +kernel
theorem tyX4_ok : ∀ k, k < 4 → parseFieldDescriptor (TX4 k).2.2.1 = some (tyX4 k) := by decide +kernel
abbrev cX4_init : ByteArray := prog_6_method_1_code
def yX4_init : MethodName := ⟨RX4, "<init>", "()V"⟩
abbrev cX4_append : ByteArray := prog_6_method_2_code
def yX4_append : MethodName := ⟨RX4, "append", "(I)V"⟩
abbrev cX4_readInto : ByteArray := prog_6_method_3_code
def yX4_readInto : MethodName := ⟨RX4, "readInto", "(LRunColumns$Query;)I"⟩
abbrev cX4_readEither : ByteArray := prog_6_method_4_code
def yX4_readEither : MethodName := ⟨RX4, "readEither", "(LRunColumns$Query;I)V"⟩
abbrev cX4_readBoth : ByteArray := prog_6_method_5_code
def yX4_readBoth : MethodName := ⟨RX4, "readBoth", "(LRunColumns$Query;I)V"⟩
abbrev cX4_readFactor : ByteArray := prog_6_method_6_code
def yX4_readFactor : MethodName := ⟨RX4, "readFactor", "(LRunColumns$Query;I)V"⟩
abbrev cX4_readQuestion : ByteArray := prog_6_method_7_code
def yX4_readQuestion : MethodName := ⟨RX4, "readQuestion", "(LRunColumns$Query;)V"⟩
abbrev cX4_passColumn : ByteArray := prog_6_method_8_code
def yX4_passColumn : MethodName := ⟨RX4, "passColumn", "()I"⟩
abbrev cX4_passSort : ByteArray := prog_6_method_9_code
def yX4_passSort : MethodName := ⟨RX4, "passSort", "()I"⟩
abbrev cX4_passValue : ByteArray := prog_6_method_10_code
def yX4_passValue : MethodName := ⟨RX4, "passValue", "()I"⟩
abbrev cX4_passClosing : ByteArray := prog_6_method_11_code
def yX4_passClosing : MethodName := ⟨RX4, "passClosing", "()V"⟩
abbrev cX4_blameWhatFollows : ByteArray := prog_6_method_12_code
def yX4_blameWhatFollows : MethodName := ⟨RX4, "blameWhatFollows", "()V"⟩
abbrev cX4_isJoinedBy : ByteArray := prog_6_method_13_code
def yX4_isJoinedBy : MethodName := ⟨RX4, "isJoinedBy", "(Ljava/lang/String;)Z"⟩
abbrev cX4_passJoin : ByteArray := prog_6_method_14_code
def yX4_passJoin : MethodName := ⟨RX4, "passJoin", "(Ljava/lang/String;)V"⟩
abbrev cX4_isWordAt : ByteArray := prog_6_method_15_code
def yX4_isWordAt : MethodName := ⟨RX4, "isWordAt", "(ILjava/lang/String;)Z"⟩
abbrev cX4_passWord : ByteArray := prog_6_method_16_code
def yX4_passWord : MethodName := ⟨RX4, "passWord", "(Ljava/lang/String;)V"⟩
abbrev cX4_pass : ByteArray := prog_6_method_17_code
def yX4_pass : MethodName := ⟨RX4, "pass", "(C)V"⟩
abbrev cX4_blame : ByteArray := prog_6_method_18_code
def yX4_blame : MethodName := ⟨RX4, "blame", "(I)V"⟩
abbrev cX4_isLetter : ByteArray := prog_6_method_19_code
def yX4_isLetter : MethodName := ⟨RX4, "isLetter", "(I)Z"⟩
abbrev cX4_isDigit : ByteArray := prog_6_method_20_code
def yX4_isDigit : MethodName := ⟨RX4, "isDigit", "(I)Z"⟩
abbrev cX4_signAt : ByteArray := prog_6_method_21_code
def yX4_signAt : MethodName := ⟨RX4, "signAt", "(I)I"⟩
def RX5 : String := "RunColumns$Rows"
def TX5 : u_T := fun k => match k with
  | 0 => ("RunColumns$Rows", "bits", "[LRunColumns$Bits;", true)
  | _ => ("RunColumns$Rows", "size", "I", false)
def tyX5 : Nat → FieldType := fun k => match k with
  | 0 => .array (.object "RunColumns$Bits")
  | _ => .int
abbrev wsX50 : List Cond := u_ws RX5 TX5 2
theorem nmX5 : ∀ a, a < 2 → ∀ b, b < 2 → a ≠ b → (TX5 a).2.1 ≠ (TX5 b).2.1 := by decide +kernel
theorem tyX5_ok : ∀ k, k < 2 → parseFieldDescriptor (TX5 k).2.2.1 = some (tyX5 k) := by decide +kernel
abbrev cX5_init : ByteArray := prog_7_method_1_code
def yX5_init : MethodName := ⟨RX5, "<init>", "()V"⟩
abbrev cX5_hasRow : ByteArray := prog_7_method_2_code
def yX5_hasRow : MethodName := ⟨RX5, "hasRow", "(I)Z"⟩
abbrev cX5_isFull : ByteArray := prog_7_method_3_code
def yX5_isFull : MethodName := ⟨RX5, "isFull", "()Z"⟩
abbrev cX5_bitsOf : ByteArray := prog_7_method_4_code
def yX5_bitsOf : MethodName := ⟨RX5, "bitsOf", "(II)LRunColumns$Bits;"⟩
abbrev cX5_valueOf : ByteArray := prog_7_method_5_code
def yX5_valueOf : MethodName := ⟨RX5, "valueOf", "(II)I"⟩
abbrev cX5_append : ByteArray := prog_7_method_6_code
def yX5_append : MethodName := ⟨RX5, "append", "(IIII)V"⟩
abbrev cX5_appendLike : ByteArray := prog_7_method_7_code
def yX5_appendLike : MethodName := ⟨RX5, "appendLike", "(I)V"⟩
abbrev cX5_putLast : ByteArray := prog_7_method_8_code
def yX5_putLast : MethodName := ⟨RX5, "putLast", "(II)V"⟩
abbrev cX5_cutTo : ByteArray := prog_7_method_9_code
def yX5_cutTo : MethodName := ⟨RX5, "cutTo", "(I)V"⟩
abbrev cX5_become : ByteArray := prog_7_method_10_code
def yX5_become : MethodName := ⟨RX5, "become", "(LRunColumns$Rows;)V"⟩
abbrev cX5_runsOfSlices : ByteArray := prog_7_method_11_code
def yX5_runsOfSlices : MethodName := ⟨RX5, "runsOfSlices", "(I)I"⟩
def RX6 : String := "RunColumns$State"
def TX6 : u_T := fun k => match k with
  | 0 => ("RunColumns$State", "rows", "LRunColumns$Rows;", true)
  | 1 => ("RunColumns$State", "marks", "[I", true)
  | 2 => ("RunColumns$State", "markCount", "I", false)
  | 3 => ("RunColumns$State", "seen", "LRunColumns$Pairs;", true)
  | 4 => ("RunColumns$State", "plan", "LRunColumns$Pairs;", true)
  | _ => ("RunColumns$State", "book", "LRunColumns$Pairs;", true)
def tyX6 : Nat → FieldType := fun k => match k with
  | 0 => .object "RunColumns$Rows"
  | 1 => .array .int
  | 2 => .int
  | 3 => .object "RunColumns$Pairs"
  | 4 => .object "RunColumns$Pairs"
  | _ => .object "RunColumns$Pairs"
abbrev wsX60 : List Cond := u_ws RX6 TX6 6
theorem nmX6 : ∀ a, a < 6 → ∀ b, b < 6 → a ≠ b → (TX6 a).2.1 ≠ (TX6 b).2.1 := by decide +kernel
theorem tyX6_ok : ∀ k, k < 6 → parseFieldDescriptor (TX6 k).2.2.1 = some (tyX6 k) := by decide +kernel
abbrev cX6_init : ByteArray := prog_8_method_1_code
def yX6_init : MethodName := ⟨RX6, "<init>", "()V"⟩
abbrev cX6_hasMark : ByteArray := prog_8_method_2_code
def yX6_hasMark : MethodName := ⟨RX6, "hasMark", "(I)Z"⟩
abbrev cX6_become : ByteArray := prog_8_method_3_code
def yX6_become : MethodName := ⟨RX6, "become", "(LRunColumns$State;)V"⟩
abbrev cX6_isSeenBelow : ByteArray := prog_8_method_4_code
def yX6_isSeenBelow : MethodName := ⟨RX6, "isSeenBelow", "(II)Z"⟩
abbrev cX6_tryPlan : ByteArray := prog_8_method_5_code
def yX6_tryPlan : MethodName := ⟨RX6, "tryPlan", "(LRunColumns$Rows;)V"⟩
abbrev cX6_tryStep : ByteArray := prog_8_method_6_code
def yX6_tryStep : MethodName := ⟨RX6, "tryStep", "(IILRunColumns$Rows;)V"⟩
def RX7 : String := "RunColumns$Tape"
def TX7 : u_T := fun k => match k with
  | 0 => ("RunColumns$Tape", "items", "[J", true)
  | 1 => ("RunColumns$Tape", "sort", "I", false)
  | _ => ("RunColumns$Tape", "size", "I", false)
def tyX7 : Nat → FieldType := fun k => match k with
  | 0 => .array .long
  | 1 => .int
  | _ => .int
abbrev wsX70 : List Cond := u_ws RX7 TX7 3
theorem nmX7 : ∀ a, a < 3 → ∀ b, b < 3 → a ≠ b → (TX7 a).2.1 ≠ (TX7 b).2.1 := by decide +kernel
theorem tyX7_ok : ∀ k, k < 3 → parseFieldDescriptor (TX7 k).2.2.1 = some (tyX7 k) := by decide +kernel
abbrev cX7_init : ByteArray := prog_9_method_1_code
def yX7_init : MethodName := ⟨RX7, "<init>", "()V"⟩
abbrev cX7_isNothing : ByteArray := prog_9_method_2_code
def yX7_isNothing : MethodName := ⟨RX7, "isNothing", "()Z"⟩
abbrev cX7_hasItem : ByteArray := prog_9_method_3_code
def yX7_hasItem : MethodName := ⟨RX7, "hasItem", "(I)Z"⟩
abbrev cX7_hasStretch : ByteArray := prog_9_method_4_code
def yX7_hasStretch : MethodName := ⟨RX7, "hasStretch", "(II)Z"⟩
abbrev cX7_become : ByteArray := prog_9_method_5_code
def yX7_become : MethodName := ⟨RX7, "become", "(II)V"⟩
abbrev cX7_put : ByteArray := prog_9_method_6_code
def yX7_put : MethodName := ⟨RX7, "put", "(IJ)V"⟩
def RX8 : String := "RunColumns$Work"
def TX8 : u_T := fun k => match k with
  | 0 => ("RunColumns$Work", "results", "[LRunColumns$Bits;", true)
  | 1 => ("RunColumns$Work", "costs", "[I", true)
  | 2 => ("RunColumns$Work", "depths", "[I", true)
  | _ => ("RunColumns$Work", "height", "I", false)
def tyX8 : Nat → FieldType := fun k => match k with
  | 0 => .array (.object "RunColumns$Bits")
  | 1 => .array .int
  | 2 => .array .int
  | _ => .int
abbrev wsX80 : List Cond := u_ws RX8 TX8 4
theorem nmX8 : ∀ a, a < 4 → ∀ b, b < 4 → a ≠ b → (TX8 a).2.1 ≠ (TX8 b).2.1 := by decide +kernel
theorem tyX8_ok : ∀ k, k < 4 → parseFieldDescriptor (TX8 k).2.2.1 = some (tyX8 k) := by decide +kernel
abbrev cX8_init : ByteArray := prog_10_method_1_code
def yX8_init : MethodName := ⟨RX8, "<init>", "()V"⟩
abbrev cX8_result : ByteArray := prog_10_method_2_code
def yX8_result : MethodName := ⟨RX8, "result", "()LRunColumns$Bits;"⟩
abbrev cX8_cost : ByteArray := prog_10_method_3_code
def yX8_cost : MethodName := ⟨RX8, "cost", "()I"⟩
abbrev cX8_depth : ByteArray := prog_10_method_4_code
def yX8_depth : MethodName := ⟨RX8, "depth", "()I"⟩
abbrev cX8_goThrough : ByteArray := prog_10_method_5_code
def yX8_goThrough : MethodName := ⟨RX8, "goThrough", "(LRunColumns$Query;LRunColumns$Rows;)V"⟩
abbrev cX8_turn : ByteArray := prog_10_method_6_code
def yX8_turn : MethodName := ⟨RX8, "turn", "(LRunColumns$Rows;)V"⟩
abbrev cX8_join : ByteArray := prog_10_method_7_code
def yX8_join : MethodName := ⟨RX8, "join", "(ILRunColumns$Rows;)V"⟩
abbrev cX8_ask : ByteArray := prog_10_method_8_code
def yX8_ask : MethodName := ⟨RX8, "ask", "(LRunColumns$Query;ILRunColumns$Rows;)V"⟩
def RX9 : String := "RunColumns"
def TX9 : u_T := fun k => match k with
  | 0 => ("RunColumns", "now", "LRunColumns$State;", true)
  | 1 => ("RunColumns", "imaged", "LRunColumns$State;", true)
  | 2 => ("RunColumns", "hasImage", "Z", false)
  | 3 => ("RunColumns", "reader", "LRunColumns$Reader;", true)
  | 4 => ("RunColumns", "queries", "[LRunColumns$Query;", true)
  | 5 => ("RunColumns", "queryCount", "I", false)
  | 6 => ("RunColumns", "tapes", "[LRunColumns$Tape;", true)
  | 7 => ("RunColumns", "work", "LRunColumns$Work;", true)
  | 8 => ("RunColumns", "otherWork", "LRunColumns$Work;", true)
  | 9 => ("RunColumns", "scratch", "LRunColumns$Bits;", true)
  | 10 => ("RunColumns", "groups", "LRunColumns$Groups;", true)
  | _ => ("RunColumns", "trial", "LRunColumns$Rows;", true)
def tyX9 : Nat → FieldType := fun k => match k with
  | 0 => .object "RunColumns$State"
  | 1 => .object "RunColumns$State"
  | 2 => .boolean
  | 3 => .object "RunColumns$Reader"
  | 4 => .array (.object "RunColumns$Query")
  | 5 => .int
  | 6 => .array (.object "RunColumns$Tape")
  | 7 => .object "RunColumns$Work"
  | 8 => .object "RunColumns$Work"
  | 9 => .object "RunColumns$Bits"
  | 10 => .object "RunColumns$Groups"
  | _ => .object "RunColumns$Rows"
abbrev wsX90 : List Cond := u_ws RX9 TX9 12
theorem nmX9 : ∀ a, a < 12 → ∀ b, b < 12 → a ≠ b → (TX9 a).2.1 ≠ (TX9 b).2.1 := by decide +kernel
theorem tyX9_ok : ∀ k, k < 12 → parseFieldDescriptor (TX9 k).2.2.1 = some (tyX9 k) := by decide +kernel
abbrev cX9_init : ByteArray := prog_1_method_1_code
def yX9_init : MethodName := ⟨RX9, "<init>", "()V"⟩
abbrev cX9_add : ByteArray := prog_1_method_2_code
def yX9_add : MethodName := ⟨RX9, "add", "(IIII)I"⟩
abbrev cX9_at : ByteArray := prog_1_method_3_code
def yX9_at : MethodName := ⟨RX9, "at", "(II)I"⟩
abbrev cX9_mark : ByteArray := prog_1_method_4_code
def yX9_mark : MethodName := ⟨RX9, "mark", "()I"⟩
abbrev cX9_back : ByteArray := prog_1_method_5_code
def yX9_back : MethodName := ⟨RX9, "back", "(I)I"⟩
abbrev cX9_runs : ByteArray := prog_1_method_6_code
def yX9_runs : MethodName := ⟨RX9, "runs", "(II)I"⟩
abbrev cX9_run : ByteArray := prog_1_method_7_code
def yX9_run : MethodName := ⟨RX9, "run", "(III)I"⟩
abbrev cX9_feed : ByteArray := prog_1_method_8_code
def yX9_feed : MethodName := ⟨RX9, "feed", "(I)I"⟩
abbrev cX9_query : ByteArray := prog_1_method_9_code
def yX9_query : MethodName := ⟨RX9, "query", "()I"⟩
abbrev cX9_of : ByteArray := prog_1_method_10_code
def yX9_of : MethodName := ⟨RX9, "of", "(II)I"⟩
abbrev cX9_row : ByteArray := prog_1_method_11_code
def yX9_row : MethodName := ⟨RX9, "row", "(II)I"⟩
abbrev cX9_group : ByteArray := prog_1_method_12_code
def yX9_group : MethodName := ⟨RX9, "group", "(III)I"⟩
abbrev cX9_edge : ByteArray := prog_1_method_13_code
def yX9_edge : MethodName := ⟨RX9, "edge", "(III)I"⟩
abbrev cX9_two : ByteArray := prog_1_method_14_code
def yX9_two : MethodName := ⟨RX9, "two", "(III)I"⟩
abbrev cX9_see : ByteArray := prog_1_method_15_code
def yX9_see : MethodName := ⟨RX9, "see", "(IZ)I"⟩
abbrev cX9_bounds : ByteArray := prog_1_method_16_code
def yX9_bounds : MethodName := ⟨RX9, "bounds", "(II)I"⟩
abbrev cX9_odds : ByteArray := prog_1_method_17_code
def yX9_odds : MethodName := ⟨RX9, "odds", "(II)J"⟩
abbrev cX9_mean : ByteArray := prog_1_method_18_code
def yX9_mean : MethodName := ⟨RX9, "mean", "(III)J"⟩
abbrev cX9_plan : ByteArray := prog_1_method_19_code
def yX9_plan : MethodName := ⟨RX9, "plan", "(II)I"⟩
abbrev cX9_ends : ByteArray := prog_1_method_20_code
def yX9_ends : MethodName := ⟨RX9, "ends", "(II)I"⟩
abbrev cX9_book : ByteArray := prog_1_method_21_code
def yX9_book : MethodName := ⟨RX9, "book", "(II)I"⟩
abbrev cX9_looked : ByteArray := prog_1_method_22_code
def yX9_looked : MethodName := ⟨RX9, "looked", "()I"⟩
abbrev cX9_judge : ByteArray := prog_1_method_23_code
def yX9_judge : MethodName := ⟨RX9, "judge", "(III)I"⟩
abbrev cX9_image : ByteArray := prog_1_method_24_code
def yX9_image : MethodName := ⟨RX9, "image", "()I"⟩
abbrev cX9_undo : ByteArray := prog_1_method_25_code
def yX9_undo : MethodName := ⟨RX9, "undo", "()I"⟩
abbrev cX9_taken : ByteArray := prog_1_method_26_code
def yX9_taken : MethodName := ⟨RX9, "taken", "(II)I"⟩
abbrev cX9_count : ByteArray := prog_1_method_27_code
def yX9_count : MethodName := ⟨RX9, "count", "(I)I"⟩
abbrev cX9_tape : ByteArray := prog_1_method_28_code
def yX9_tape : MethodName := ⟨RX9, "tape", "(III)I"⟩
abbrev cX9_item : ByteArray := prog_1_method_29_code
def yX9_item : MethodName := ⟨RX9, "item", "(IIJ)I"⟩
abbrev cX9_read : ByteArray := prog_1_method_30_code
def yX9_read : MethodName := ⟨RX9, "read", "(II)J"⟩
abbrev cX9_shift : ByteArray := prog_1_method_31_code
def yX9_shift : MethodName := ⟨RX9, "shift", "(IIIII)I"⟩
abbrev cX9_isValue : ByteArray := prog_1_method_32_code
def yX9_isValue : MethodName := ⟨RX9, "isValue", "(I)Z"⟩
abbrev cX9_isKind : ByteArray := prog_1_method_33_code
def yX9_isKind : MethodName := ⟨RX9, "isKind", "(I)Z"⟩
abbrev cX9_isColumn : ByteArray := prog_1_method_34_code
def yX9_isColumn : MethodName := ⟨RX9, "isColumn", "(I)Z"⟩
abbrev cX9_isPart : ByteArray := prog_1_method_35_code
def yX9_isPart : MethodName := ⟨RX9, "isPart", "(I)Z"⟩
abbrev cX9_isTape : ByteArray := prog_1_method_36_code
def yX9_isTape : MethodName := ⟨RX9, "isTape", "(I)Z"⟩
abbrev cX9_isQuery : ByteArray := prog_1_method_37_code
def yX9_isQuery : MethodName := ⟨RX9, "isQuery", "(I)Z"⟩
abbrev cX9_resultOf : ByteArray := prog_1_method_38_code
def yX9_resultOf : MethodName := ⟨RX9, "resultOf", "(I)LRunColumns$Bits;"⟩
abbrev cX9_inLowestTerms : ByteArray := prog_1_method_39_code
def yX9_inLowestTerms : MethodName := ⟨RX9, "inLowestTerms", "(III)J"⟩
abbrev cX9_greatestDivisor : ByteArray := prog_1_method_40_code
def yX9_greatestDivisor : MethodName := ⟨RX9, "greatestDivisor", "(II)I"⟩
def RX10 : String := "RunColumnsModel"
def TX10 : u_T := fun k => match k with
  | 0 => ("RunColumnsModel", "g", "[I", true)
  | 1 => ("RunColumnsModel", "saved", "[I", true)
  | 2 => ("RunColumnsModel", "kept", "[I", true)
  | 3 => ("RunColumnsModel", "isKept", "Z", false)
  | 4 => ("RunColumnsModel", "queries", "I", false)
  | 5 => ("RunColumnsModel", "roots", "[I", true)
  | 6 => ("RunColumnsModel", "sort", "[I", true)
  | 7 => ("RunColumnsModel", "column", "[I", true)
  | 8 => ("RunColumnsModel", "low", "[I", true)
  | 9 => ("RunColumnsModel", "high", "[I", true)
  | 10 => ("RunColumnsModel", "one", "[I", true)
  | 11 => ("RunColumnsModel", "other", "[I", true)
  | 12 => ("RunColumnsModel", "text", "[I", true)
  | 13 => ("RunColumnsModel", "textMany", "I", false)
  | 14 => ("RunColumnsModel", "groups", "[I", true)
  | 15 => ("RunColumnsModel", "tapeSort", "[I", true)
  | 16 => ("RunColumnsModel", "tapeSize", "[I", true)
  | 17 => ("RunColumnsModel", "tapes", "[[J", true)
  | 18 => ("RunColumnsModel", "moved", "[J", true)
  | 19 => ("RunColumnsModel", "spot", "I", false)
  | 20 => ("RunColumnsModel", "fault", "I", false)
  | 21 => ("RunColumnsModel", "nodes", "I", false)
  | _ => ("RunColumnsModel", "base", "I", false)
def tyX10 : Nat → FieldType := fun k => match k with
  | 0 => .array .int
  | 1 => .array .int
  | 2 => .array .int
  | 3 => .boolean
  | 4 => .int
  | 5 => .array .int
  | 6 => .array .int
  | 7 => .array .int
  | 8 => .array .int
  | 9 => .array .int
  | 10 => .array .int
  | 11 => .array .int
  | 12 => .array .int
  | 13 => .int
  | 14 => .array .int
  | 15 => .array .int
  | 16 => .array .int
  | 17 => .array (.array .long)
  | 18 => .array .long
  | 19 => .int
  | 20 => .int
  | 21 => .int
  | _ => .int
abbrev wsX100 : List Cond := u_ws RX10 TX10 23
theorem nmX10 : ∀ a, a < 23 → ∀ b, b < 23 → a ≠ b → (TX10 a).2.1 ≠ (TX10 b).2.1 := by decide +kernel
theorem tyX10_ok : ∀ k, k < 23 → parseFieldDescriptor (TX10 k).2.2.1 = some (tyX10 k) := by decide +kernel
abbrev cX10_init : ByteArray := prog_12_method_1_code
def yX10_init : MethodName := ⟨RX10, "<init>", "()V"⟩
abbrev cX10_in : ByteArray := prog_12_method_2_code
def yX10_in : MethodName := ⟨RX10, "in", "(III)Z"⟩
abbrev cX10_copy : ByteArray := prog_12_method_3_code
def yX10_copy : MethodName := ⟨RX10, "copy", "([I[I)V"⟩
abbrev cX10_isRow : ByteArray := prog_12_method_4_code
def yX10_isRow : MethodName := ⟨RX10, "isRow", "(I)Z"⟩
abbrev cX10_comes : ByteArray := prog_12_method_5_code
def yX10_comes : MethodName := ⟨RX10, "comes", "(IIII)I"⟩
abbrev cX10_add : ByteArray := prog_12_method_6_code
def yX10_add : MethodName := ⟨RX10, "add", "(IIII)I"⟩
abbrev cX10_at : ByteArray := prog_12_method_7_code
def yX10_at : MethodName := ⟨RX10, "at", "(II)I"⟩
abbrev cX10_mark : ByteArray := prog_12_method_8_code
def yX10_mark : MethodName := ⟨RX10, "mark", "()I"⟩
abbrev cX10_back : ByteArray := prog_12_method_9_code
def yX10_back : MethodName := ⟨RX10, "back", "(I)I"⟩
abbrev cX10_bit : ByteArray := prog_12_method_10_code
def yX10_bit : MethodName := ⟨RX10, "bit", "(III)Z"⟩
abbrev cX10_runsOf : ByteArray := prog_12_method_11_code
def yX10_runsOf : MethodName := ⟨RX10, "runsOf", "(II)I"⟩
abbrev cX10_runs : ByteArray := prog_12_method_12_code
def yX10_runs : MethodName := ⟨RX10, "runs", "(II)I"⟩
abbrev cX10_run : ByteArray := prog_12_method_13_code
def yX10_run : MethodName := ⟨RX10, "run", "(III)I"⟩
abbrev cX10_isOnes : ByteArray := prog_12_method_14_code
def yX10_isOnes : MethodName := ⟨RX10, "isOnes", "(III)Z"⟩
abbrev cX10_feed : ByteArray := prog_12_method_15_code
def yX10_feed : MethodName := ⟨RX10, "feed", "(I)I"⟩
abbrev cX10_signAt : ByteArray := prog_12_method_16_code
def yX10_signAt : MethodName := ⟨RX10, "signAt", "(I)I"⟩
abbrev cX10_wrong : ByteArray := prog_12_method_17_code
def yX10_wrong : MethodName := ⟨RX10, "wrong", "(I)V"⟩
abbrev cX10_must : ByteArray := prog_12_method_18_code
def yX10_must : MethodName := ⟨RX10, "must", "(I)V"⟩
abbrev cX10_wordEnd : ByteArray := prog_12_method_19_code
def yX10_wordEnd : MethodName := ⟨RX10, "wordEnd", "()I"⟩
abbrev cX10_word : ByteArray := prog_12_method_20_code
def yX10_word : MethodName := ⟨RX10, "word", "()I"⟩
abbrev cX10_node : ByteArray := prog_12_method_21_code
def yX10_node : MethodName := ⟨RX10, "node", "(IIIIII)I"⟩
abbrev cX10_value : ByteArray := prog_12_method_22_code
def yX10_value : MethodName := ⟨RX10, "value", "()I"⟩
abbrev cX10_columnHere : ByteArray := prog_12_method_23_code
def yX10_columnHere : MethodName := ⟨RX10, "columnHere", "(I)I"⟩
abbrev cX10_factor : ByteArray := prog_12_method_24_code
def yX10_factor : MethodName := ⟨RX10, "factor", "(I)I"⟩
abbrev cX10_follows : ByteArray := prog_12_method_25_code
def yX10_follows : MethodName := ⟨RX10, "follows", "(I)Z"⟩
abbrev cX10_both : ByteArray := prog_12_method_26_code
def yX10_both : MethodName := ⟨RX10, "both", "(I)I"⟩
abbrev cX10_either : ByteArray := prog_12_method_27_code
def yX10_either : MethodName := ⟨RX10, "either", "(I)I"⟩
abbrev cX10_query : ByteArray := prog_12_method_28_code
def yX10_query : MethodName := ⟨RX10, "query", "()I"⟩
abbrev cX10_isQuery : ByteArray := prog_12_method_29_code
def yX10_isQuery : MethodName := ⟨RX10, "isQuery", "(I)Z"⟩
abbrev cX10_isSo : ByteArray := prog_12_method_30_code
def yX10_isSo : MethodName := ⟨RX10, "isSo", "(II)Z"⟩
abbrev cX10_resultMany : ByteArray := prog_12_method_31_code
def yX10_resultMany : MethodName := ⟨RX10, "resultMany", "(I)I"⟩
abbrev cX10_resultRuns : ByteArray := prog_12_method_32_code
def yX10_resultRuns : MethodName := ⟨RX10, "resultRuns", "(I)I"⟩
abbrev cX10_cost : ByteArray := prog_12_method_33_code
def yX10_cost : MethodName := ⟨RX10, "cost", "(I)I"⟩
abbrev cX10_sortsIn : ByteArray := prog_12_method_34_code
def yX10_sortsIn : MethodName := ⟨RX10, "sortsIn", "(IZ)I"⟩
abbrev cX10_deepOf : ByteArray := prog_12_method_35_code
def yX10_deepOf : MethodName := ⟨RX10, "deepOf", "(I)I"⟩
abbrev cX10_rowAt : ByteArray := prog_12_method_36_code
def yX10_rowAt : MethodName := ⟨RX10, "rowAt", "(II)I"⟩
abbrev cX10_of : ByteArray := prog_12_method_37_code
def yX10_of : MethodName := ⟨RX10, "of", "(II)I"⟩
abbrev cX10_row : ByteArray := prog_12_method_38_code
def yX10_row : MethodName := ⟨RX10, "row", "(II)I"⟩
abbrev cX10_grouped : ByteArray := prog_12_method_39_code
def yX10_grouped : MethodName := ⟨RX10, "grouped", "(II)V"⟩
abbrev cX10_group : ByteArray := prog_12_method_40_code
def yX10_group : MethodName := ⟨RX10, "group", "(III)I"⟩
abbrev cX10_edge : ByteArray := prog_12_method_41_code
def yX10_edge : MethodName := ⟨RX10, "edge", "(III)I"⟩
abbrev cX10_two : ByteArray := prog_12_method_42_code
def yX10_two : MethodName := ⟨RX10, "two", "(III)I"⟩
abbrev cX10_see : ByteArray := prog_12_method_43_code
def yX10_see : MethodName := ⟨RX10, "see", "(IZ)I"⟩
abbrev cX10_isSeen : ByteArray := prog_12_method_44_code
def yX10_isSeen : MethodName := ⟨RX10, "isSeen", "(II)Z"⟩
abbrev cX10_bounds : ByteArray := prog_12_method_45_code
def yX10_bounds : MethodName := ⟨RX10, "bounds", "(II)I"⟩
abbrev cX10_common : ByteArray := prog_12_method_46_code
def yX10_common : MethodName := ⟨RX10, "common", "(II)I"⟩
abbrev cX10_part : ByteArray := prog_12_method_47_code
def yX10_part : MethodName := ⟨RX10, "part", "(III)J"⟩
abbrev cX10_odds : ByteArray := prog_12_method_48_code
def yX10_odds : MethodName := ⟨RX10, "odds", "(II)J"⟩
abbrev cX10_mean : ByteArray := prog_12_method_49_code
def yX10_mean : MethodName := ⟨RX10, "mean", "(III)J"⟩
abbrev cX10_plan : ByteArray := prog_12_method_50_code
def yX10_plan : MethodName := ⟨RX10, "plan", "(II)I"⟩
abbrev cX10_does : ByteArray := prog_12_method_51_code
def yX10_does : MethodName := ⟨RX10, "does", "(II)V"⟩
abbrev cX10_ends : ByteArray := prog_12_method_52_code
def yX10_ends : MethodName := ⟨RX10, "ends", "(II)I"⟩
abbrev cX10_book : ByteArray := prog_12_method_53_code
def yX10_book : MethodName := ⟨RX10, "book", "(II)I"⟩
abbrev cX10_looked : ByteArray := prog_12_method_54_code
def yX10_looked : MethodName := ⟨RX10, "looked", "()I"⟩
abbrev cX10_isTape : ByteArray := prog_12_method_55_code
def yX10_isTape : MethodName := ⟨RX10, "isTape", "(I)Z"⟩
abbrev cX10_judge : ByteArray := prog_12_method_56_code
def yX10_judge : MethodName := ⟨RX10, "judge", "(III)I"⟩
abbrev cX10_image : ByteArray := prog_12_method_57_code
def yX10_image : MethodName := ⟨RX10, "image", "()I"⟩
abbrev cX10_undo : ByteArray := prog_12_method_58_code
def yX10_undo : MethodName := ⟨RX10, "undo", "()I"⟩
abbrev cX10_taken : ByteArray := prog_12_method_59_code
def yX10_taken : MethodName := ⟨RX10, "taken", "(II)I"⟩
abbrev cX10_count : ByteArray := prog_12_method_60_code
def yX10_count : MethodName := ⟨RX10, "count", "(I)I"⟩
abbrev cX10_tape : ByteArray := prog_12_method_61_code
def yX10_tape : MethodName := ⟨RX10, "tape", "(III)I"⟩
abbrev cX10_fit : ByteArray := prog_12_method_62_code
def yX10_fit : MethodName := ⟨RX10, "fit", "(IJ)J"⟩
abbrev cX10_item : ByteArray := prog_12_method_63_code
def yX10_item : MethodName := ⟨RX10, "item", "(IIJ)I"⟩
abbrev cX10_read : ByteArray := prog_12_method_64_code
def yX10_read : MethodName := ⟨RX10, "read", "(II)J"⟩
abbrev cX10_shift : ByteArray := prog_12_method_65_code
def yX10_shift : MethodName := ⟨RX10, "shift", "(IIIII)I"⟩
def RJx145de : String := "java/io/Serializable"
def TJx145de : u_T := fun k => match k with
  | _ => ("", "", "", false)
def tyJx145de : Nat → FieldType := fun k => match k with
  | _ => .int
abbrev wsJx145de0 : List Cond := u_ws RJx145de TJx145de 0
theorem nmJx145de : ∀ a, a < 0 → ∀ b, b < 0 → a ≠ b → (TJx145de a).2.1 ≠ (TJx145de b).2.1 := by decide +kernel
theorem tyJx145de_ok : ∀ k, k < 0 → parseFieldDescriptor (TJx145de k).2.2.1 = some (tyJx145de k) := by decide +kernel
def RJx9f9b0 : String := "java/lang/CharSequence"
def TJx9f9b0 : u_T := fun k => match k with
  | _ => ("", "", "", false)
def tyJx9f9b0 : Nat → FieldType := fun k => match k with
  | _ => .int
abbrev wsJx9f9b00 : List Cond := u_ws RJx9f9b0 TJx9f9b0 0
theorem nmJx9f9b0 : ∀ a, a < 0 → ∀ b, b < 0 → a ≠ b → (TJx9f9b0 a).2.1 ≠ (TJx9f9b0 b).2.1 := by decide +kernel
theorem tyJx9f9b0_ok : ∀ k, k < 0 → parseFieldDescriptor (TJx9f9b0 k).2.2.1 = some (tyJx9f9b0 k) := by decide +kernel
def RJxb160c : String := "java/lang/Comparable"
def TJxb160c : u_T := fun k => match k with
  | _ => ("", "", "", false)
def tyJxb160c : Nat → FieldType := fun k => match k with
  | _ => .int
abbrev wsJxb160c0 : List Cond := u_ws RJxb160c TJxb160c 0
theorem nmJxb160c : ∀ a, a < 0 → ∀ b, b < 0 → a ≠ b → (TJxb160c a).2.1 ≠ (TJxb160c b).2.1 := by decide +kernel
theorem tyJxb160c_ok : ∀ k, k < 0 → parseFieldDescriptor (TJxb160c k).2.2.1 = some (tyJxb160c k) := by decide +kernel
def RJ13 : String := "java/lang/Long"
def TJ13 : u_T := fun k => match k with
  | _ => ("", "", "", false)
def tyJ13 : Nat → FieldType := fun k => match k with
  | _ => .int
abbrev wsJ130 : List Cond := u_ws RJ13 TJ13 0
theorem nmJ13 : ∀ a, a < 0 → ∀ b, b < 0 → a ≠ b → (TJ13 a).2.1 ≠ (TJ13 b).2.1 := by decide +kernel
theorem tyJ13_ok : ∀ k, k < 0 → parseFieldDescriptor (TJ13 k).2.2.1 = some (tyJ13 k) := by decide +kernel
abbrev cJ13_bitCount_95d88 : ByteArray := prog_13_method_50_code
def yJ13_bitCount_95d88 : MethodName := ⟨RJ13, "bitCount", "(J)I"⟩
def RJ9 : String := "java/lang/Math"
def TJ9 : u_T := fun k => match k with
  | _ => ("", "", "", false)
def tyJ9 : Nat → FieldType := fun k => match k with
  | _ => .int
abbrev wsJ90 : List Cond := u_ws RJ9 TJ9 0
theorem nmJ9 : ∀ a, a < 0 → ∀ b, b < 0 → a ≠ b → (TJ9 a).2.1 ≠ (TJ9 b).2.1 := by decide +kernel
theorem tyJ9_ok : ∀ k, k < 0 → parseFieldDescriptor (TJ9 k).2.2.1 = some (tyJ9 k) := by decide +kernel
abbrev cJ9_max_7cf53 : ByteArray := prog_14_method_65_code
def yJ9_max_7cf53 : MethodName := ⟨RJ9, "max", "(II)I"⟩
def RJ0 : String := "java/lang/String"
def TJ0 : u_T := fun k => match k with
  | _ => ("", "", "", false)
def tyJ0 : Nat → FieldType := fun k => match k with
  | _ => .int
abbrev wsJ00 : List Cond := u_ws RJ0 TJ0 0
theorem nmJ0 : ∀ a, a < 0 → ∀ b, b < 0 → a ≠ b → (TJ0 a).2.1 ≠ (TJ0 b).2.1 := by decide +kernel
theorem tyJ0_ok : ∀ k, k < 0 → parseFieldDescriptor (TJ0 k).2.2.1 = some (tyJ0 k) := by decide +kernel
abbrev cJ0_length_8abf5 : ByteArray := prog_15_method_54_code
def yJ0_length_8abf5 : MethodName := ⟨RJ0, "length", "()I"⟩
abbrev cJ0_charAt_5068e : ByteArray := prog_15_method_56_code
def yJ0_charAt_5068e : MethodName := ⟨RJ0, "charAt", "(I)C"⟩
abbrev cJ0_coder_7d493 : ByteArray := prog_15_method_152_code
def yJ0_coder_7d493 : MethodName := ⟨RJ0, "coder", "()B"⟩
abbrev cJ0_isLatin1_aae02 : ByteArray := prog_15_method_154_code
def yJ0_isLatin1_aae02 : MethodName := ⟨RJ0, "isLatin1", "()Z"⟩
abbrev cJ0_checkIndex_df160 : ByteArray := prog_15_method_155_code
def yJ0_checkIndex_df160 : MethodName := ⟨RJ0, "checkIndex", "(II)V"⟩
def RJ1 : String := "java/lang/StringLatin1"
def TJ1 : u_T := fun k => match k with
  | _ => ("", "", "", false)
def tyJ1 : Nat → FieldType := fun k => match k with
  | _ => .int
abbrev wsJ10 : List Cond := u_ws RJ1 TJ1 0
theorem nmJ1 : ∀ a, a < 0 → ∀ b, b < 0 → a ≠ b → (TJ1 a).2.1 ≠ (TJ1 b).2.1 := by decide +kernel
theorem tyJ1_ok : ∀ k, k < 0 → parseFieldDescriptor (TJ1 k).2.2.1 = some (tyJ1 k) := by decide +kernel
abbrev cJ1_charAt_3b067 : ByteArray := prog_16_method_2_code
def yJ1_charAt_3b067 : MethodName := ⟨RJ1, "charAt", "([BI)C"⟩
def RJ2 : String := "java/lang/StringUTF16"
def TJ2 : u_T := fun k => match k with
  | _ => ("", "", "", false)
def tyJ2 : Nat → FieldType := fun k => match k with
  | _ => .int
abbrev wsJ20 : List Cond := u_ws RJ2 TJ2 0
theorem nmJ2 : ∀ a, a < 0 → ∀ b, b < 0 → a ≠ b → (TJ2 a).2.1 ≠ (TJ2 b).2.1 := by decide +kernel
theorem tyJ2_ok : ∀ k, k < 0 → parseFieldDescriptor (TJ2 k).2.2.1 = some (tyJ2 k) := by decide +kernel
abbrev cJ2_getChar_3b067 : ByteArray := prog_17_method_5_code
def yJ2_getChar_3b067 : MethodName := ⟨RJ2, "getChar", "([BI)C"⟩
abbrev cJ2_length_9d52b : ByteArray := prog_17_method_6_code
def yJ2_length_9d52b : MethodName := ⟨RJ2, "length", "([B)I"⟩
abbrev cJ2_charAt_3b067 : ByteArray := prog_17_method_83_code
def yJ2_charAt_3b067 : MethodName := ⟨RJ2, "charAt", "([BI)C"⟩
abbrev cJ2_checkIndex_2214a : ByteArray := prog_17_method_91_code
def yJ2_checkIndex_2214a : MethodName := ⟨RJ2, "checkIndex", "(I[B)V"⟩
def RJ10 : String := "java/lang/System"
def TJ10 : u_T := fun k => match k with
  | _ => ("", "", "", false)
def tyJ10 : Nat → FieldType := fun k => match k with
  | _ => .int
abbrev wsJ100 : List Cond := u_ws RJ10 TJ10 0
theorem nmJ10 : ∀ a, a < 0 → ∀ b, b < 0 → a ≠ b → (TJ10 a).2.1 ≠ (TJ10 b).2.1 := by decide +kernel
theorem tyJ10_ok : ∀ k, k < 0 → parseFieldDescriptor (TJ10 k).2.2.1 = some (tyJ10 k) := by decide +kernel
def RJxfd54e : String := "java/lang/constant/Constable"
def TJxfd54e : u_T := fun k => match k with
  | _ => ("", "", "", false)
def tyJxfd54e : Nat → FieldType := fun k => match k with
  | _ => .int
abbrev wsJxfd54e0 : List Cond := u_ws RJxfd54e TJxfd54e 0
theorem nmJxfd54e : ∀ a, a < 0 → ∀ b, b < 0 → a ≠ b → (TJxfd54e a).2.1 ≠ (TJxfd54e b).2.1 := by decide +kernel
theorem tyJxfd54e_ok : ∀ k, k < 0 → parseFieldDescriptor (TJxfd54e k).2.2.1 = some (tyJxfd54e k) := by decide +kernel
def RJx3cf43 : String := "java/lang/constant/ConstantDesc"
def TJx3cf43 : u_T := fun k => match k with
  | _ => ("", "", "", false)
def tyJx3cf43 : Nat → FieldType := fun k => match k with
  | _ => .int
abbrev wsJx3cf430 : List Cond := u_ws RJx3cf43 TJx3cf43 0
theorem nmJx3cf43 : ∀ a, a < 0 → ∀ b, b < 0 → a ≠ b → (TJx3cf43 a).2.1 ≠ (TJx3cf43 b).2.1 := by decide +kernel
theorem tyJx3cf43_ok : ∀ k, k < 0 → parseFieldDescriptor (TJx3cf43 k).2.2.1 = some (tyJx3cf43 k) := by decide +kernel
def RJ7 : String := "java/util/Arrays"
def TJ7 : u_T := fun k => match k with
  | _ => ("", "", "", false)
def tyJ7 : Nat → FieldType := fun k => match k with
  | _ => .int
abbrev wsJ70 : List Cond := u_ws RJ7 TJ7 0
theorem nmJ7 : ∀ a, a < 0 → ∀ b, b < 0 → a ≠ b → (TJ7 a).2.1 ≠ (TJ7 b).2.1 := by decide +kernel
theorem tyJ7_ok : ∀ k, k < 0 → parseFieldDescriptor (TJ7 k).2.2.1 = some (tyJ7 k) := by decide +kernel
abbrev cJ7_fill_d0a16 : ByteArray := prog_19_method_101_code
def yJ7_fill_d0a16 : MethodName := ⟨RJ7, "fill", "([JJ)V"⟩
def RJ3 : String := "jdk/internal/util/Preconditions"
def TJ3 : u_T := fun k => match k with
  | _ => ("", "", "", false)
def tyJ3 : Nat → FieldType := fun k => match k with
  | _ => .int
abbrev wsJ30 : List Cond := u_ws RJ3 TJ3 0
theorem nmJ3 : ∀ a, a < 0 → ∀ b, b < 0 → a ≠ b → (TJ3 a).2.1 ≠ (TJ3 b).2.1 := by decide +kernel
theorem tyJ3_ok : ∀ k, k < 0 → parseFieldDescriptor (TJ3 k).2.2.1 = some (tyJ3 k) := by decide +kernel
abbrev cJ3_checkIndex_8e157 : ByteArray := prog_20_method_11_code
def yJ3_checkIndex_8e157 : MethodName := ⟨RJ3, "checkIndex", "(IILjava/util/function/BiFunction;)I"⟩
def RL : String := "RunColumnsLaw"
abbrev cL_law : ByteArray := code
def yL_law : MethodName := ⟨RL, "law", "([I)Z"⟩
abbrev vwCl : List vw_C := [(RX0, TX0, 2), (RX1, TX1, 3), (RX2, TX2, 4), (RX3, TX3, 5), (RX4, TX4, 4), (RX5, TX5, 2), (RX6, TX6, 6), (RX7, TX7, 3), (RX8, TX8, 4), (RX9, TX9, 12), (RX10, TX10, 23)]
end
section
/-! ===== the flat layer: one abstract heap, a judgement without its surroundings, contracts by equations ===== -/
abbrev zE : Type := (Nat × vp_A) ⊕ (Nat × List Value)
abbrev zH : Type := Nat → Option zE
/-- what is fixed for a run: classes and slots, array classes; where the new cells begin, the literals' cells; the script; a static that is a reference or null -/
abbrev zG : Type := (va_G × (Nat → ClassId)) × (Nat × (Nat → Nat) × (Nat → Nat)) × (Nat × Nat × (Nat → Int32)) × Value
abbrev zz (G : zG) : Nat := G.2.1.1
abbrev zsK (G : zG) : Nat → Nat := G.2.1.2.1
abbrev zsV (G : zG) : Nat → Nat := G.2.1.2.2
abbrev zb (G : zG) : Nat := G.2.2.1.1
abbrev zbL (G : zG) : Nat := G.2.2.1.2.1
abbrev zbx (G : zG) : Nat → Int32 := G.2.2.1.2.2
abbrev zfv (G : zG) : Value := G.2.2.2
abbrev zB (G : zG) : Nat → Prop := fun q => zz G ≤ q
def zT : Nat → FieldType
  | 0 => .int
  | 1 => .long
  | 2 => .byte
  | 3 => .object "RunColumns$Bits"
  | 4 => .object "RunColumns$Query"
  | 5 => .object "RunColumns$Tape"
  | _ => .array .long
def ztys (G : zG) : List (ClassId × FieldType) := (List.range 7).map (fun k => (G.1.2 k, zT k))
theorem ztys_at (G : zG) {k : Nat} (h : k < 7) : (ztys G)[k]? = some (G.1.2 k, zT k) := by
  simp [ztys, h]
def zcv (G : zG) : zE → va_E
  | .inl a => .inl (G.1.2 a.1, a.2)
  | .inr o => .inr o
def zlen : List Nat := [2, 3, 3, 3, 2, 5, 2]
def zbyt : List (List Int32) := [[111, 114], [97, 110, 100], [110, 111, 116], [97, 108, 108], [105, 115], [98, 101, 108, 111, 119], [105, 110]]
def zlit : List (Nat × String) := [(40, "or"), (57, "and"), (59, "not"), (82, "all"), (106, "is"), (108, "below"), (110, "in")]
/-- the words that every call hands on by themselves; those of nest mates -/
def lw_gd : List Cond := lw_tbl.filter goodWord
theorem zgd {w : Cond} (i : Nat) (h : lw_tbl[i]? = some w) (hg : goodWord w = true) : w ∈ lw_gd := List.mem_filter.mpr ⟨List.mem_of_getElem? h, hg⟩
def zns : Cond → Bool
  | .fieldLinkNest .. => true
  | .methodLinkNest .. => true
  | _ => false
theorem zns_warm {w : Cond} {s U : State} (hW : s.WarmedH U.vm) (h : zns w = true) (hZ : va_Nw w s) : va_Nw w U := by
  cases w <;> first | exact va_Nw.warmF hW hZ | exact va_Nw.warmM hW hZ | (cases h)
theorem zns_same {w : Cond} {s U : State} (hv : s.vm = U.vm) (h : zns w = true) (hZ : va_Nw w s) : va_Nw w U := by
  cases w <;> first | exact va_Nw.same rfl hv hZ | (cases h)
def zK (G : zG) (U : State) (H : Heap) : Prop :=
  va_K G.1.1 vwCl (ztys G) U ∧ va_Z "java/lang/String" "COMPACT_STRINGS" "Z" (.int 1) (zB G) U H ∧ vk_S 7 zlen zbyt (zsK G) (zsV G) (zB G) U H ∧
  (∀ i : Nat, i < 7 → vk_R "RunColumns$Reader" (zlit.getD i (0, "")).1 (zlit.getD i (0, "")).2 (zsK G i) U) ∧ (va_X (zb G) (zbL G) (zbx G) U H ∧ zb G < zz G) ∧ zz G ≤ H.size ∧
  va_Z "jdk/internal/util/Preconditions" "SIOOBE_FORMATTER" "Ljava/util/function/BiFunction;" (zfv G) (zB G) U H ∧ (zfv G).category = 1 ∧ (∀ w ∈ lw_tbl, zns w = true → va_Nw w U) ∧ (∀ C : String, Cond.arrayOver (.object C) ∈ lw_tbl → va_AO C U)
theorem zK.warm {G : zG} {s U : State} {H : Heap} (hW : s.WarmedH U.vm) (h : zK G s H) : zK G U H :=
  ⟨h.1.moved hW.alike, h.2.1.moved hW.alike, h.2.2.1.moved hW.alike, fun i hi => (h.2.2.2.1 i hi).warm hW, ⟨h.2.2.2.2.1.1.moved hW.alike, h.2.2.2.2.1.2⟩, h.2.2.2.2.2.1, h.2.2.2.2.2.2.1.moved hW.alike, h.2.2.2.2.2.2.2.1, fun w hw hn => zns_warm hW hn (h.2.2.2.2.2.2.2.2.1 w hw hn), fun C hC => (h.2.2.2.2.2.2.2.2.2 C hC).moved hW.alike⟩
theorem zK.same {G : zG} {s U : State} {H : Heap} (hv : U.vm = s.vm) (h : zK G s H) : zK G U H := by
  have hA : s.vm.Alike U.vm := by rw [hv]; exact Vm.Alike.refl _
  exact ⟨h.1.moved hA, h.2.1.moved hA, h.2.2.1.moved hA, fun i hi => (h.2.2.2.1 i hi).same hv, ⟨h.2.2.2.2.1.1.moved hA, h.2.2.2.2.1.2⟩, h.2.2.2.2.2.1, h.2.2.2.2.2.2.1.moved hA, h.2.2.2.2.2.2.2.1, fun w hw hn => zns_same hv.symm hn (h.2.2.2.2.2.2.2.2.1 w hw hn), fun C hC => (h.2.2.2.2.2.2.2.2.2 C hC).moved hA⟩
theorem zK.kept {G : zG} {s : State} {H H1 : Heap} (h : zK G s H) (hz : H.size ≤ H1.size) (hq : ∀ a : Nat, a < H.size → ¬ zB G a → H1[a]? = H[a]?) : zK G s H1 :=
  ⟨h.1, h.2.1.kept hq, h.2.2.1.kept hq, h.2.2.2.1, ⟨h.2.2.2.2.1.1.kept (hq _ (Nat.lt_of_lt_of_le h.2.2.2.2.1.2 h.2.2.2.2.2.1) (Nat.not_le.mpr h.2.2.2.2.1.2)), h.2.2.2.2.1.2⟩, Nat.le_trans h.2.2.2.2.2.1 hz, h.2.2.2.2.2.2.1.kept hq, h.2.2.2.2.2.2.2⟩
def zA (G : zG) (sz : Nat) (ah : zH) (H : Heap) : Prop := H.size = sz ∧ ∀ (a : Nat) (e : zE), ah a = some e → zz G ≤ a ∧ va_at G.1.1 vwCl (a, zcv G e) H
def zu (ah : zH) (a : Nat) (e : zE) : zH := fun b => if b = a then some e else ah b
theorem zu_same {ah : zH} {a : Nat} {e : zE} : zu ah a e a = some e := if_pos rfl
theorem zu_ne {ah : zH} {a b : Nat} {e : zE} (h : ¬ b = a) : zu ah a e b = ah b := if_neg h
theorem zA.set {G : zG} {sz a : Nat} {ah : zH} {e : zE} {H H1 : Heap} (h : zA G sz ah H) (ha : zz G ≤ a) (he : va_at G.1.1 vwCl (a, zcv G e) H1) (hz : H1.size = H.size) (oq : ∀ q : Nat, q ≠ a → H1[q]? = H[q]?) : zA G sz (zu ah a e) H1 := by
  refine ⟨hz.trans h.1, fun b e' hb => ?_⟩
  by_cases hba : b = a
  · subst hba
    rw [zu_same] at hb
    cases hb
    exact ⟨ha, he⟩
  · rw [zu_ne hba] at hb
    exact ⟨(h.2 b e' hb).1, (h.2 b e' hb).2.kept (oq b hba)⟩
theorem zA.new {G : zG} {sz : Nat} {ah : zH} {e : zE} {H H1 : Heap} (h : zA G sz ah H) (hG : zz G ≤ H.size) (he : va_at G.1.1 vwCl (sz, zcv G e) H1) (hz : H1.size = sz + 1) (oq : ∀ q : Nat, q < sz → H1[q]? = H[q]?) : zA G (sz + 1) (zu ah sz e) H1 := by
  refine ⟨hz, fun b e' hb => ?_⟩
  by_cases hba : b = sz
  · subst hba
    rw [zu_same] at hb
    cases hb
    exact ⟨by rw [← h.1]; exact hG, he⟩
  · rw [zu_ne hba] at hb
    obtain ⟨h1, h2⟩ := h.2 b e' hb
    have hl : b < H.size := h2.lt
    exact ⟨h1, h2.kept (oq b (by rw [← h.1]; exact hl))⟩
/-! locals by their places -/
def zat : List (Option Value) → Nat → Option Value
  | [], _ => none
  | x :: _, 0 => x
  | _ :: l, n + 1 => zat l n
def zpt : List (Option Value) → Nat → Option Value → List (Option Value)
  | [], _, _ => []
  | _ :: l, 0, v => v :: l
  | x :: l, n + 1, v => x :: zpt l n v
def zclr (lv : List (Option Value)) (i : Nat) : List (Option Value) := match i with
  | 0 => lv
  | k + 1 => match zat lv k with
    | some w => if w.category = 2 then zpt lv k none else lv
    | none => lv
def zset1 (lv : List (Option Value)) (i : Nat) (v : Value) : List (Option Value) := zpt (zclr lv i) i (some v)
def zset2 (lv : List (Option Value)) (i : Nat) (v : Value) : List (Option Value) := zpt (zpt (zclr lv i) i (some v)) (i + 1) none
def zal : Nat → List (Option Value) → List (Nat × Value)
  | _, [] => []
  | j, some v :: l => (j, v) :: zal (j + 1) l
  | j, none :: l => zal (j + 1) l
theorem zal_mem : ∀ (lv : List (Option Value)) (j i : Nat) (v : Value), zat lv i = some v → (j + i, v) ∈ zal j lv
  | [], _, _, _, h => by cases h
  | some w :: l, j, 0, v, h => by cases h; exact List.mem_cons_self
  | some w :: l, j, n + 1, v, h => by
    have := zal_mem l (j + 1) n v h
    rw [show j + 1 + n = j + (n + 1) by omega] at this
    exact List.mem_cons_of_mem _ this
  | none :: l, j, 0, v, h => by cases h
  | none :: l, j, n + 1, v, h => by
    have := zal_mem l (j + 1) n v h
    rw [show j + 1 + n = j + (n + 1) by omega] at this
    exact this
theorem zal_inv : ∀ (lv : List (Option Value)) (j : Nat) (q : Nat × Value), q ∈ zal j lv → ∃ i, q.1 = j + i ∧ zat lv i = some q.2
  | [], _, _, h => by cases h
  | some w :: l, j, q, h => by
    rcases List.mem_cons.mp h with rfl | h
    · exact ⟨0, rfl, rfl⟩
    · obtain ⟨i, h1, h2⟩ := zal_inv l (j + 1) q h
      exact ⟨i + 1, by omega, h2⟩
  | none :: l, j, q, h => by
    obtain ⟨i, h1, h2⟩ := zal_inv l (j + 1) q h
    exact ⟨i + 1, by omega, h2⟩
theorem zpt_at : ∀ (lv : List (Option Value)) (i : Nat) (x : Option Value) (j : Nat) (w : Value), zat (zpt lv i x) j = some w → (j = i ∧ x = some w) ∨ (j ≠ i ∧ zat lv j = some w)
  | [], _, _, _, _, h => by cases h
  | y :: l, 0, x, 0, w, h => Or.inl ⟨rfl, h⟩
  | y :: l, 0, x, j + 1, w, h => Or.inr ⟨by omega, h⟩
  | y :: l, i + 1, x, 0, w, h => Or.inr ⟨by omega, h⟩
  | y :: l, i + 1, x, j + 1, w, h => by
    rcases zpt_at l i x j w h with ⟨h1, h2⟩ | ⟨h1, h2⟩
    · exact Or.inl ⟨by omega, h2⟩
    · exact Or.inr ⟨by omega, h2⟩
theorem zclr_at (lv : List (Option Value)) (i j : Nat) (w : Value) (h : zat (zclr lv i) j = some w) : zat lv j = some w ∧ ¬ (j + 1 = i ∧ w.category = 2) := by
  unfold zclr at h
  cases i with
  | zero => exact ⟨h, by omega⟩
  | succ k =>
    dsimp only at h
    cases hk : zat lv k with
    | none =>
      rw [hk] at h
      refine ⟨h, fun q => ?_⟩
      have : j = k := by omega
      subst this
      rw [h] at hk
      cases hk
    | some u =>
      rw [hk] at h
      dsimp only at h
      by_cases hc : u.category = 2
      · rw [if_pos hc] at h
        rcases zpt_at lv k none j w h with ⟨-, h2⟩ | ⟨h1, h2⟩
        · cases h2
        · exact ⟨h2, by omega⟩
      · rw [if_neg hc] at h
        refine ⟨h, fun q => ?_⟩
        have : j = k := by omega
        subst this
        rw [h] at hk
        cases hk
        exact hc q.2
def zL (n : Nat) (lv : List (Option Value)) (ls : Array Slot) : Prop := ls.size = n ∧ lv_wf ls ∧ ∀ (i : Nat) (v : Value), zat lv i = some v → ls[i]? = some (.val v)
theorem zL.has {n : Nat} {lv : List (Option Value)} {ls : Array Slot} (h : zL n lv ls) : lv_has ls n (zal 0 lv) :=
  ⟨h.1, h.2.1, fun q hq => by
    obtain ⟨i, h1, h2⟩ := zal_inv lv 0 q hq
    rw [h1, Nat.zero_add]
    exact h.2.2 i q.2 h2⟩
theorem zL.set1 {n i : Nat} {v : Value} {lv : List (Option Value)} {ls : Array Slot} (h : lv_has ls n ((i, v) :: (zal 0 lv).filter (fun q => !(q.1 == i) && !(q.1 + 1 == i && q.2.category == 2)))) : zL n (zset1 lv i v) ls := by
  refine ⟨h.1, h.2.1, fun j w hj => ?_⟩
  rcases zpt_at _ _ _ _ _ hj with ⟨h1, h2⟩ | ⟨h1, h2⟩
  · cases h2
    subst h1
    exact h.2.2 (j, v) List.mem_cons_self
  · obtain ⟨g1, g2⟩ := zclr_at _ _ _ _ h2
    have hm := zal_mem lv 0 j w g1
    rw [Nat.zero_add] at hm
    refine h.2.2 (j, w) (List.mem_cons_of_mem _ (List.mem_filter.mpr ⟨hm, ?_⟩))
    simp only [Bool.and_eq_true, Bool.not_eq_true', beq_eq_false_iff_ne, ne_eq, Bool.and_eq_false_iff]
    refine ⟨h1, ?_⟩
    by_cases hji : j + 1 = i
    · exact Or.inr (fun hc => g2 ⟨hji, hc⟩)
    · exact Or.inl hji
theorem zL.set2 {n i : Nat} {v : Value} {lv : List (Option Value)} {ls : Array Slot} (h : lv_has ls n ((i, v) :: (zal 0 lv).filter (fun q => !(q.1 == i) && (!(q.1 == i + 1) && !(q.1 + 1 == i && q.2.category == 2))))) : zL n (zset2 lv i v) ls := by
  refine ⟨h.1, h.2.1, fun j w hj => ?_⟩
  rcases zpt_at _ _ _ _ _ hj with ⟨h1, h2⟩ | ⟨h0, hj⟩
  · cases h2
  rcases zpt_at _ _ _ _ _ hj with ⟨h1, h2⟩ | ⟨h1, h2⟩
  · cases h2
    subst h1
    exact h.2.2 (j, v) List.mem_cons_self
  · obtain ⟨g1, g2⟩ := zclr_at _ _ _ _ h2
    have hm := zal_mem lv 0 j w g1
    rw [Nat.zero_add] at hm
    refine h.2.2 (j, w) (List.mem_cons_of_mem _ (List.mem_filter.mpr ⟨hm, ?_⟩))
    simp only [Bool.and_eq_true, Bool.not_eq_true', beq_eq_false_iff_ne, ne_eq, Bool.and_eq_false_iff]
    refine ⟨h1, h0, ?_⟩
    by_cases hji : j + 1 = i
    · exact Or.inr (fun hc => g2 ⟨hji, hc⟩)
    · exact Or.inl hji
def zent : List Value → List (Option Value)
  | [] => []
  | v :: vs => if v.category = 2 then some v :: none :: zent vs else some v :: zent vs
theorem zent_mem (k : Nat) : ∀ (av : List Value) (j i : Nat) (v : Value), zat (zent av ++ List.replicate k none) i = some v → (j + i, v) ∈ lv_args j av
  | [], j, i, v, h => by
    exfalso
    have : ∀ (k i : Nat), zat (List.replicate k none) i = none := by
      intro k
      induction k with
      | zero => intro i; rfl
      | succ k ih => intro i; cases i with
        | zero => rfl
        | succ i => exact ih i
    simp only [zent, List.nil_append] at h
    rw [this] at h
    cases h
  | w :: vs, j, i, v, h => by
    unfold zent at h
    unfold lv_args
    by_cases hc : w.category = 2
    · rw [if_pos hc] at h
      match i, h with
      | 0, h => cases h; exact List.mem_cons_self
      | 1, h => cases h
      | i + 2, h =>
        have := zent_mem k vs (j + 2) i v h
        rw [if_pos hc, show j + (i + 2) = j + 2 + i by omega]
        exact List.mem_cons_of_mem _ this
    · rw [if_neg hc] at h
      match i, h with
      | 0, h => cases h; exact List.mem_cons_self
      | i + 1, h =>
        have := zent_mem k vs (j + 1) i v h
        rw [if_neg hc, show j + (i + 1) = j + 1 + i by omega]
        exact List.mem_cons_of_mem _ this
/-! the judgement -/
abbrev zM : Type := String × MethodName × ByteArray × Nat × Option FieldType
abbrev zcd (M : zM) : ByteArray := M.2.2.1
abbrev zml (M : zM) : Nat := M.2.2.2.1
abbrev zrt (M : zM) : Option FieldType := M.2.2.2.2
def zX (G : zG) (M : zM) (p : Program) (s : State) (m : MethodId) (args : Array Value) (meth : Method) (c : Code) : Prop :=
  p.tables.exec = Jvm.exec ∧ c.code = zcd M ∧ meth.sig.returnType = zrt M ∧ c.maxLocals = zml M ∧ s.vm.findClass M.1 = some m.cls ∧ (∀ w ∈ lw_gd, w.before args s = true) ∧ meth.locks = false ∧ meth.name = M.2.1.name ∧ zK G s s.heap
abbrev zFin : Type := State → Array Value → List Frame → State → Prop
def zW (G : zG) (M : zM) (R : Room) (F : zFin) (cn sn : Nat) (pc : Nat) (lv : List (Option Value)) (st : List Value) (ah : zH) (sz : Nat) : Prop :=
  ∀ (p : Program) (l : Launch) (e : Env) (s : State) (m : MethodId) (args : Array Value) (below : List Frame) (meth : Method) (c : Code) (H : Heap) (locs : List Loc) (ls : Array Slot),
    zX G M p s m args meth c → zA G sz ah H → va_S (zB G) s.heap H locs → zL (zml M) lv ls → W p l e R s m args below meth c H locs cn sn (F s args below) (F0 m pc ls st)
abbrev zPost : Type := Option Value → zH → Nat → Prop
def zQ (G : zG) (Q : zPost) : Array Value → State → Outcome → State → Prop := fun _ st oc t =>
  (∃ (r : Option Value) (ah : zH) (sz : Nat), oc = .returned r ∧ Q r ah sz ∧ zA G sz ah t.heap) ∧ va_F (zB G) st t
def zFm (G : zG) (Q : zPost) (mc ms : Nat) : zFin := fun s args below => MQ below (zQ G Q) args s mc ms (zB G)
abbrev zRm (d mc ms : Nat) : Room := { frames := d, cells := mc, slots := ms, locals := 40 * d }
def zPc (G : zG) (av : List Value) (ah : zH) (sz : Nat) : Array Value → State → Prop := fun v U => v = av.toArray ∧ zA G sz ah U.heap ∧ zK G U U.heap
/-- a method's contract -/
def zC (G : zG) (M : zM) (d mc ms : Nat) (av : List Value) (ah : zH) (sz : Nat) (Q : zPost) : Prop :=
  ∀ l : Launch, Met l M.2.1 (Cond.code M.2.1 (zcd M) (zml M) (zrt M) :: lw_gd) (zRm d mc ms) (zPc G av ah sz) (zQ G Q) mc ms (zB G)
/-- its answer and its heap given outright; nothing is made -/
abbrev zQe (r : Option Value) (ah : zH) (sz : Nat) : zPost := fun r' ah' sz' => r' = r ∧ ah' = ah ∧ sz' = sz
abbrev zCe (G : zG) (M : zM) (d : Nat) (av : List Value) (ah : zH) (sz : Nat) (r : Option Value) (ah' : zH) : Prop := zC G M d 0 0 av ah sz (zQe r ah' sz)
theorem z_meth {G : zG} {M : zM} {d mc ms : Nat} {av : List Value} {ah : zH} {sz : Nat} {Q : zPost} (k : Nat) {lv : List (Option Value)} (hy : plainName M.2.1.cls = true ∧ M.1 = M.2.1.cls ∧ (lg_sl av).length ≤ zml M) (hlv : zent av ++ List.replicate k none = lv)
    (kk : zW G M (zRm d mc ms) (zFm G Q mc ms) 0 0 0 lv [] ah sz) : zC G M d mc ms av ah sz Q := by
  intro l
  refine Met.ofW (cc := zcd M) (maxL := zml M) (ret := zrt M) hy.1 rfl ?_
  intro p e s m args below meth c s₁ B hml hv
  obtain ⟨rfl, hA, hK⟩ := hv
  have hts := atoms_spec (ws := (Cond.code M.2.1 (zcd M) (zml M) (zrt M) :: lw_gd)) B.pre
  have hown : s.vm.findClass M.1 = some m.cls := by rw [hy.2.1]; exact findClass_of_methodNamed B.named
  rw [lg_entry_eq]
  have hl := lv_entry av (n := zml M) hy.2.2
  refine kk p l e s m av.toArray below meth c s.heap [] _ ⟨B.exec, B.bytes, B.returns, hml, hown, fun w h => hts w (List.mem_cons_of_mem _ h), B.notSynchronized, (name_of_methodNamed B.named B.method).1, hK⟩ hA va_S.rf ⟨hl.1, hl.2.1, fun i v hi => ?_⟩
  rw [← hlv] at hi
  have := zent_mem k av 0 i v hi
  rw [Nat.zero_add] at this
  exact hl.2.2 (i, v) this
section ZR
variable {G : zG} {M : zM} {R : Room} {F : zFin} {cn sn pc : Nat} {lv lv' : List (Option Value)} {st : List Value} {ah : zH} {sz : Nat}
theorem zXn {p : Program} {s : State} {m : MethodId} {args : Array Value} {meth : Method} {c : Code} (X : zX G M p s m args meth c) {w : Cond} (hw : w ∈ lw_tbl) (hn : zns w = true) : va_Nw w s := X.2.2.2.2.2.2.2.2.2.2.2.2.2.2.2.2.1 w hw hn
theorem z_eq {pc' : Nat} {lv' : List (Option Value)} {st' : List Value} {ah' : zH} (h1 : pc = pc') (h2 : lv = lv') (h3 : st = st') (h4 : ah = ah') (k : zW G M R F cn sn pc' lv' st' ah' sz) : zW G M R F cn sn pc lv st ah sz := by
  subst h1; subst h2; subst h3; subst h4; exact k
theorem z_heap {ah' : zH} (h4 : ah = ah') (k : zW G M R F cn sn pc lv st ah' sz) : zW G M R F cn sn pc lv st ah sz := by
  subst h4; exact k
/-- fewer locals -/
def zsub : List (Option Value) → List (Option Value) → Prop
  | _, [] => True
  | [], none :: l' => zsub [] l'
  | [], some _ :: _ => False
  | _ :: l, none :: l' => zsub l l'
  | x :: l, some v :: l' => x = some v ∧ zsub l l'
theorem zsub_at : ∀ (l l' : List (Option Value)), zsub l l' → ∀ (i : Nat) (v : Value), zat l' i = some v → zat l i = some v
  | _, [], _, i, v, h => by cases h
  | [], none :: l', hs, 0, v, h => by cases h
  | [], none :: l', hs, i + 1, v, h => by
    have := zsub_at [] l' (by simpa [zsub] using hs) i v h
    cases this
  | [], some _ :: _, hs, _, _, _ => by simp [zsub] at hs
  | y :: l, none :: l', hs, 0, v, h => by cases h
  | y :: l, none :: l', hs, i + 1, v, h => zsub_at l l' (by simpa [zsub] using hs) i v h
  | y :: l, some w :: l', hs, 0, v, h => by
    have h1 : y = some w ∧ zsub l l' := by simpa [zsub] using hs
    rw [h1.1]; exact h
  | y :: l, some w :: l', hs, i + 1, v, h => by
    have h1 : y = some w ∧ zsub l l' := by simpa [zsub] using hs
    exact zsub_at l l' h1.2 i v h
theorem z_loc (h : zsub lv lv') (k : zW G M R F cn sn pc lv' st ah sz) : zW G M R F cn sn pc lv st ah sz :=
  fun p l e s m args below meth c H locs ls X hA hS hL => k p l e s m args below meth c H locs ls X hA hS ⟨hL.1, hL.2.1, fun i v hi => hL.2.2 i v (zsub_at _ _ h i v hi)⟩
theorem z_iconst {n : Int} (v : Int32) (hd : decode (zcd M) pc = .ok (.iconst n, 1)) (hv : Int32.ofInt n = v) (k : zW G M R F cn sn (pc + 1) lv (.int v :: st) ah sz) : zW G M R F cn sn pc lv st ah sz :=
  fun p l e s m args below meth c H locs ls X hA hS hL => lv_iconst X.1 X.2.1 hd hv (k p l e s m args below meth c H locs ls X hA hS hL)
theorem z_bipush {n : Int} (v : Int32) (hd : decode (zcd M) pc = .ok (.bipush n, 2)) (hv : (Int8.ofInt n).toInt32 = v) (k : zW G M R F cn sn (pc + 2) lv (.int v :: st) ah sz) : zW G M R F cn sn pc lv st ah sz :=
  fun p l e s m args below meth c H locs ls X hA hS hL => lv_bipush X.1 X.2.1 hd hv (k p l e s m args below meth c H locs ls X hA hS hL)
theorem z_sipush {n : Int} (v : Int32) (hd : decode (zcd M) pc = .ok (.sipush n, 3)) (hv : (Int16.ofInt n).toInt32 = v) (k : zW G M R F cn sn (pc + 3) lv (.int v :: st) ah sz) : zW G M R F cn sn pc lv st ah sz :=
  fun p l e s m args below meth c H locs ls X hA hS hL => lv_sipush X.1 X.2.1 hd hv (k p l e s m args below meth c H locs ls X hA hS hL)
theorem z_lconst {n : Fin 2} (v : Int64) (hd : decode (zcd M) pc = .ok (.lconst n, 1)) (hv : Int64.ofNat (n : Nat) = v) (k : zW G M R F cn sn (pc + 1) lv (.long v :: st) ah sz) : zW G M R F cn sn pc lv st ah sz :=
  fun p l e s m args below meth c H locs ls X hA hS hL => lv_lconst X.1 X.2.1 hd hv (k p l e s m args below meth c H locs ls X hA hS hL)
theorem z_ldc {own : String} {index : Nat} (v : Int32) (hc : Cond.constant M.1 index v ∈ lw_gd) (hd : decode (zcd M) pc = .ok (.ldc index, 2)) (k : zW G M R F cn sn (pc + 2) lv (.int v :: st) ah sz) : zW G M R F cn sn pc lv st ah sz :=
  fun p l e s m args below meth c H locs ls X hA hS hL => lv_ldc X.1 X.2.1 X.2.2.2.2.1 (X.2.2.2.2.2.1 _ hc) hd (k p l e s m args below meth c H locs ls X hA hS hL)
theorem z_ldc2 {index : Nat} (v : Int64) (hc : Cond.constantLong M.1 index v ∈ lw_gd) (hd : decode (zcd M) pc = .ok (.ldc2_w index, 3)) (k : zW G M R F cn sn (pc + 3) lv (.long v :: st) ah sz) : zW G M R F cn sn pc lv st ah sz :=
  fun p l e s m args below meth c H locs ls X hA hS hL => lv_ldc2 X.1 X.2.1 X.2.2.2.2.1 (X.2.2.2.2.2.1 _ hc) hd (k p l e s m args below meth c H locs ls X hA hS hL)
theorem z_ldcS (i : Nat) (hi : i < 7) {index : Nat} (hM : M.1 = "RunColumns$Reader") (hx : (zlit.getD i (0, "")).1 = index) (hd : decode (zcd M) pc = .ok (.ldc index, 2)) (k : zW G M R F cn sn (pc + 2) lv (.ref (zsK G i) :: st) ah sz) : zW G M R F cn sn pc lv st ah sz :=
  fun p l e s m args below meth c H locs ls X hA hS hL => va_ldcS X.1 X.2.1 X.2.2.2.2.1 (hM ▸ hx ▸ X.2.2.2.2.2.2.2.2.2.2.2.1 i hi) hd (k p l e s m args below meth c H locs ls X hA hS hL)
theorem z_iload_n {n : Fin 4} {x : Int32} (hd : decode (zcd M) pc = .ok (.iload_n n, 1)) (hl : zat lv n = some (.int x)) (k : zW G M R F cn sn (pc + 1) lv (.int x :: st) ah sz) : zW G M R F cn sn pc lv st ah sz :=
  fun p l e s m args below meth c H locs ls X hA hS hL => lv_iload_n X.1 X.2.1 hd rfl (hL.2.2 _ _ hl) (k p l e s m args below meth c H locs ls X hA hS hL)
theorem z_iload {n : Nat} {x : Int32} (hd : decode (zcd M) pc = .ok (.iload n, 2)) (hl : zat lv n = some (.int x)) (k : zW G M R F cn sn (pc + 2) lv (.int x :: st) ah sz) : zW G M R F cn sn pc lv st ah sz :=
  fun p l e s m args below meth c H locs ls X hA hS hL => lv_iload X.1 X.2.1 hd (hL.2.2 _ _ hl) (k p l e s m args below meth c H locs ls X hA hS hL)
theorem z_istore_n {n : Fin 4} {x : Int32} (hd : decode (zcd M) pc = .ok (.istore_n n, 1)) (hn : (n : Nat) < zml M) (hl : zset1 lv n (.int x) = lv') (k : zW G M R F cn sn (pc + 1) lv' st ah sz) : zW G M R F cn sn pc lv (.int x :: st) ah sz :=
  fun p l e s m args below meth c H locs ls X hA hS hL => lv_istore_n X.1 X.2.1 hd rfl hL.has hn rfl (fun ls h => k p l e s m args below meth c H locs ls X hA hS (hl ▸ zL.set1 h))
theorem z_istore {n : Nat} {x : Int32} (hd : decode (zcd M) pc = .ok (.istore n, 2)) (hn : n < zml M) (hl : zset1 lv n (.int x) = lv') (k : zW G M R F cn sn (pc + 2) lv' st ah sz) : zW G M R F cn sn pc lv (.int x :: st) ah sz :=
  fun p l e s m args below meth c H locs ls X hA hS hL => lv_istore X.1 X.2.1 hd hL.has hn rfl (fun ls h => k p l e s m args below meth c H locs ls X hA hS (hl ▸ zL.set1 h))
theorem z_lload_n {n : Fin 4} {x : Int64} (hd : decode (zcd M) pc = .ok (.lload_n n, 1)) (hl : zat lv n = some (.long x)) (k : zW G M R F cn sn (pc + 1) lv (.long x :: st) ah sz) : zW G M R F cn sn pc lv st ah sz :=
  fun p l e s m args below meth c H locs ls X hA hS hL => lv_lload_n X.1 X.2.1 hd rfl (hL.2.2 _ _ hl) (k p l e s m args below meth c H locs ls X hA hS hL)
theorem z_lload {n : Nat} {x : Int64} (hd : decode (zcd M) pc = .ok (.lload n, 2)) (hl : zat lv n = some (.long x)) (k : zW G M R F cn sn (pc + 2) lv (.long x :: st) ah sz) : zW G M R F cn sn pc lv st ah sz :=
  fun p l e s m args below meth c H locs ls X hA hS hL => lv_lload X.1 X.2.1 hd (hL.2.2 _ _ hl) (k p l e s m args below meth c H locs ls X hA hS hL)
theorem z_lstore_n {n : Fin 4} {x : Int64} (hd : decode (zcd M) pc = .ok (.lstore_n n, 1)) (hn : (n : Nat) + 1 < zml M) (hl : zset2 lv n (.long x) = lv') (k : zW G M R F cn sn (pc + 1) lv' st ah sz) : zW G M R F cn sn pc lv (.long x :: st) ah sz :=
  fun p l e s m args below meth c H locs ls X hA hS hL => lv_lstore_n X.1 X.2.1 hd rfl hL.has hn rfl (fun ls h => k p l e s m args below meth c H locs ls X hA hS (hl ▸ zL.set2 h))
theorem z_lstore {n : Nat} {x : Int64} (hd : decode (zcd M) pc = .ok (.lstore n, 2)) (hn : n + 1 < zml M) (hl : zset2 lv n (.long x) = lv') (k : zW G M R F cn sn (pc + 2) lv' st ah sz) : zW G M R F cn sn pc lv (.long x :: st) ah sz :=
  fun p l e s m args below meth c H locs ls X hA hS hL => lv_lstore X.1 X.2.1 hd hL.has hn rfl (fun ls h => k p l e s m args below meth c H locs ls X hA hS (hl ▸ zL.set2 h))
theorem z_aload_n {n : Fin 4} {x : Nat} (hd : decode (zcd M) pc = .ok (.aload_n n, 1)) (hl : zat lv n = some (.ref x)) (k : zW G M R F cn sn (pc + 1) lv (.ref x :: st) ah sz) : zW G M R F cn sn pc lv st ah sz :=
  fun p l e s m args below meth c H locs ls X hA hS hL => lv_aload_n X.1 X.2.1 hd rfl (hL.2.2 _ _ hl) (k p l e s m args below meth c H locs ls X hA hS hL)
theorem z_aload {n : Nat} {x : Nat} (hd : decode (zcd M) pc = .ok (.aload n, 2)) (hl : zat lv n = some (.ref x)) (k : zW G M R F cn sn (pc + 2) lv (.ref x :: st) ah sz) : zW G M R F cn sn pc lv st ah sz :=
  fun p l e s m args below meth c H locs ls X hA hS hL => lv_aload X.1 X.2.1 hd (hL.2.2 _ _ hl) (k p l e s m args below meth c H locs ls X hA hS hL)
theorem z_astore_n {n : Fin 4} {x : Nat} (hd : decode (zcd M) pc = .ok (.astore_n n, 1)) (hn : (n : Nat) < zml M) (hl : zset1 lv n (.ref x) = lv') (k : zW G M R F cn sn (pc + 1) lv' st ah sz) : zW G M R F cn sn pc lv (.ref x :: st) ah sz :=
  fun p l e s m args below meth c H locs ls X hA hS hL => lv_astore_n X.1 X.2.1 hd rfl hL.has hn rfl (fun ls h => k p l e s m args below meth c H locs ls X hA hS (hl ▸ zL.set1 h))
theorem z_astore {n : Nat} {x : Nat} (hd : decode (zcd M) pc = .ok (.astore n, 2)) (hn : n < zml M) (hl : zset1 lv n (.ref x) = lv') (k : zW G M R F cn sn (pc + 2) lv' st ah sz) : zW G M R F cn sn pc lv (.ref x :: st) ah sz :=
  fun p l e s m args below meth c H locs ls X hA hS hL => lv_astore X.1 X.2.1 hd hL.has hn rfl (fun ls h => k p l e s m args below meth c H locs ls X hA hS (hl ▸ zL.set1 h))
theorem z_iinc {i : Nat} {n : Int} {x : Int32} (d : Int32) (hd : decode (zcd M) pc = .ok (.iinc i n, 3)) (hv : Int32.ofInt n = d) (hn : i < zml M) (hx : zat lv i = some (.int x)) (hl : zset1 lv i (.int (x + d)) = lv') (k : zW G M R F cn sn (pc + 3) lv' st ah sz) : zW G M R F cn sn pc lv st ah sz := by
  intro p l e s m args below meth c H locs ls X hA hS hL
  have hm := zal_mem lv 0 i _ hx
  rw [Nat.zero_add] at hm
  obtain ⟨j, hj⟩ := List.getElem?_of_mem hm
  exact lv_iinc (v := x + d) X.1 X.2.1 hd hL.has hj (by rw [hv]) hn rfl (fun ls h => k p l e s m args below meth c H locs ls X hA hS (hl ▸ zL.set1 h))
theorem z_iadd {x y : Int32} (hd : decode (zcd M) pc = .ok (.iadd, 1)) (k : zW G M R F cn sn (pc + 1) lv (.int (x + y) :: st) ah sz) : zW G M R F cn sn pc lv (.int y :: .int x :: st) ah sz :=
  fun p l e s m args below meth c H locs ls X hA hS hL => lv_iadd X.1 X.2.1 hd (k p l e s m args below meth c H locs ls X hA hS hL)
theorem z_isub {x y : Int32} (hd : decode (zcd M) pc = .ok (.isub, 1)) (k : zW G M R F cn sn (pc + 1) lv (.int (x - y) :: st) ah sz) : zW G M R F cn sn pc lv (.int y :: .int x :: st) ah sz :=
  fun p l e s m args below meth c H locs ls X hA hS hL => lv_isub X.1 X.2.1 hd (k p l e s m args below meth c H locs ls X hA hS hL)
theorem z_imul {x y : Int32} (hd : decode (zcd M) pc = .ok (.imul, 1)) (k : zW G M R F cn sn (pc + 1) lv (.int (x * y) :: st) ah sz) : zW G M R F cn sn pc lv (.int y :: .int x :: st) ah sz :=
  fun p l e s m args below meth c H locs ls X hA hS hL => lv_imul X.1 X.2.1 hd (k p l e s m args below meth c H locs ls X hA hS hL)
theorem z_iand {x y : Int32} (hd : decode (zcd M) pc = .ok (.iand, 1)) (k : zW G M R F cn sn (pc + 1) lv (.int (x &&& y) :: st) ah sz) : zW G M R F cn sn pc lv (.int y :: .int x :: st) ah sz :=
  fun p l e s m args below meth c H locs ls X hA hS hL => lv_iand X.1 X.2.1 hd (k p l e s m args below meth c H locs ls X hA hS hL)
theorem z_ior {x y : Int32} (hd : decode (zcd M) pc = .ok (.ior, 1)) (k : zW G M R F cn sn (pc + 1) lv (.int (x ||| y) :: st) ah sz) : zW G M R F cn sn pc lv (.int y :: .int x :: st) ah sz :=
  fun p l e s m args below meth c H locs ls X hA hS hL => lv_ior X.1 X.2.1 hd (k p l e s m args below meth c H locs ls X hA hS hL)
theorem z_ladd {x y : Int64} (hd : decode (zcd M) pc = .ok (.ladd, 1)) (k : zW G M R F cn sn (pc + 1) lv (.long (x + y) :: st) ah sz) : zW G M R F cn sn pc lv (.long y :: .long x :: st) ah sz :=
  fun p l e s m args below meth c H locs ls X hA hS hL => lv_ladd X.1 X.2.1 hd (k p l e s m args below meth c H locs ls X hA hS hL)
theorem z_lsub {x y : Int64} (hd : decode (zcd M) pc = .ok (.lsub, 1)) (k : zW G M R F cn sn (pc + 1) lv (.long (x - y) :: st) ah sz) : zW G M R F cn sn pc lv (.long y :: .long x :: st) ah sz :=
  fun p l e s m args below meth c H locs ls X hA hS hL => lv_lsub X.1 X.2.1 hd (k p l e s m args below meth c H locs ls X hA hS hL)
theorem z_land {x y : Int64} (hd : decode (zcd M) pc = .ok (.land, 1)) (k : zW G M R F cn sn (pc + 1) lv (.long (x &&& y) :: st) ah sz) : zW G M R F cn sn pc lv (.long y :: .long x :: st) ah sz :=
  fun p l e s m args below meth c H locs ls X hA hS hL => lv_land X.1 X.2.1 hd (k p l e s m args below meth c H locs ls X hA hS hL)
theorem z_lor {x y : Int64} (hd : decode (zcd M) pc = .ok (.lor, 1)) (k : zW G M R F cn sn (pc + 1) lv (.long (x ||| y) :: st) ah sz) : zW G M R F cn sn pc lv (.long y :: .long x :: st) ah sz :=
  fun p l e s m args below meth c H locs ls X hA hS hL => lv_lor X.1 X.2.1 hd (k p l e s m args below meth c H locs ls X hA hS hL)
theorem z_lxor {x y : Int64} (hd : decode (zcd M) pc = .ok (.lxor, 1)) (k : zW G M R F cn sn (pc + 1) lv (.long (x ^^^ y) :: st) ah sz) : zW G M R F cn sn pc lv (.long y :: .long x :: st) ah sz :=
  fun p l e s m args below meth c H locs ls X hA hS hL => lv_lxor X.1 X.2.1 hd (k p l e s m args below meth c H locs ls X hA hS hL)
theorem z_ishl {x y : Int32} (hd : decode (zcd M) pc = .ok (.ishl, 1)) (k : zW G M R F cn sn (pc + 1) lv (.int (x <<< (y &&& 31)) :: st) ah sz) : zW G M R F cn sn pc lv (.int y :: .int x :: st) ah sz :=
  fun p l e s m args below meth c H locs ls X hA hS hL => lv_ishl X.1 X.2.1 hd (k p l e s m args below meth c H locs ls X hA hS hL)
theorem z_ishr {x y : Int32} (hd : decode (zcd M) pc = .ok (.ishr, 1)) (k : zW G M R F cn sn (pc + 1) lv (.int (x >>> (y &&& 31)) :: st) ah sz) : zW G M R F cn sn pc lv (.int y :: .int x :: st) ah sz :=
  fun p l e s m args below meth c H locs ls X hA hS hL => lv_ishr X.1 X.2.1 hd (k p l e s m args below meth c H locs ls X hA hS hL)
theorem z_idiv {x y : Int32} (hd : decode (zcd M) pc = .ok (.idiv, 1)) (hne : ¬ y = 0) (k : zW G M R F cn sn (pc + 1) lv (.int (x / y) :: st) ah sz) : zW G M R F cn sn pc lv (.int y :: .int x :: st) ah sz :=
  fun p l e s m args below meth c H locs ls X hA hS hL => lv_idiv X.1 X.2.1 hd hne (k p l e s m args below meth c H locs ls X hA hS hL)
theorem z_irem {x y : Int32} (hd : decode (zcd M) pc = .ok (.irem, 1)) (hne : ¬ y = 0) (k : zW G M R F cn sn (pc + 1) lv (.int (x - x / y * y) :: st) ah sz) : zW G M R F cn sn pc lv (.int y :: .int x :: st) ah sz :=
  fun p l e s m args below meth c H locs ls X hA hS hL => lv_irem X.1 X.2.1 hd hne (k p l e s m args below meth c H locs ls X hA hS hL)
theorem z_lushr {x : Int64} {y : Int32} (hd : decode (zcd M) pc = .ok (.lushr, 1)) (k : zW G M R F cn sn (pc + 1) lv (.long (x.toUInt64 >>> (y.toInt64.toUInt64 &&& Int64.toUInt64 63)).toInt64 :: st) ah sz) : zW G M R F cn sn pc lv (.int y :: .long x :: st) ah sz :=
  fun p l e s m args below meth c H locs ls X hA hS hL => lv_lushr X.1 X.2.1 hd rfl (k p l e s m args below meth c H locs ls X hA hS hL)
theorem z_lshl {x : Int64} {y : Int32} (hd : decode (zcd M) pc = .ok (.lshl, 1)) (k : zW G M R F cn sn (pc + 1) lv (.long (x <<< (y.toInt64 &&& 63)) :: st) ah sz) : zW G M R F cn sn pc lv (.int y :: .long x :: st) ah sz :=
  fun p l e s m args below meth c H locs ls X hA hS hL => lv_lshl X.1 X.2.1 hd rfl (k p l e s m args below meth c H locs ls X hA hS hL)
theorem z_i2l {x : Int32} (hd : decode (zcd M) pc = .ok (.i2l, 1)) (k : zW G M R F cn sn (pc + 1) lv (.long (x.toInt64) :: st) ah sz) : zW G M R F cn sn pc lv (.int x :: st) ah sz :=
  fun p l e s m args below meth c H locs ls X hA hS hL => lv_i2l X.1 X.2.1 hd rfl (k p l e s m args below meth c H locs ls X hA hS hL)
theorem z_l2i {x : Int64} (hd : decode (zcd M) pc = .ok (.l2i, 1)) (k : zW G M R F cn sn (pc + 1) lv (.int (x.toInt32) :: st) ah sz) : zW G M R F cn sn pc lv (.long x :: st) ah sz :=
  fun p l e s m args below meth c H locs ls X hA hS hL => lv_l2i X.1 X.2.1 hd rfl (k p l e s m args below meth c H locs ls X hA hS hL)
theorem z_i2b {x : Int32} (hd : decode (zcd M) pc = .ok (.i2b, 1)) (k : zW G M R F cn sn (pc + 1) lv (.int (x.toInt8.toInt32) :: st) ah sz) : zW G M R F cn sn pc lv (.int x :: st) ah sz :=
  fun p l e s m args below meth c H locs ls X hA hS hL => lv_i2b X.1 X.2.1 hd rfl (k p l e s m args below meth c H locs ls X hA hS hL)
theorem z_i2s {x : Int32} (hd : decode (zcd M) pc = .ok (.i2s, 1)) (k : zW G M R F cn sn (pc + 1) lv (.int (x.toInt16.toInt32) :: st) ah sz) : zW G M R F cn sn pc lv (.int x :: st) ah sz :=
  fun p l e s m args below meth c H locs ls X hA hS hL => lv_i2s X.1 X.2.1 hd rfl (k p l e s m args below meth c H locs ls X hA hS hL)
theorem z_i2c {x : Int32} (hd : decode (zcd M) pc = .ok (.i2c, 1)) (k : zW G M R F cn sn (pc + 1) lv (.int (x.toUInt32 % 65536).toInt32 :: st) ah sz) : zW G M R F cn sn pc lv (.int x :: st) ah sz :=
  fun p l e s m args below meth c H locs ls X hA hS hL => lv_i2c X.1 X.2.1 hd rfl (k p l e s m args below meth c H locs ls X hA hS hL)
theorem z_lcmp {x y : Int64} (hd : decode (zcd M) pc = .ok (.lcmp, 1)) (k : zW G M R F cn sn (pc + 1) lv (.int (lg_cmp x y) :: st) ah sz) : zW G M R F cn sn pc lv (.long y :: .long x :: st) ah sz :=
  fun p l e s m args below meth c H locs ls X hA hS hL => W.lcmp X.1 X.2.1 hd (k p l e s m args below meth c H locs ls X hA hS hL)
theorem z_dup {v : Value} (hd : decode (zcd M) pc = .ok (.dup, 1)) (h1 : v.category = 1) (k : zW G M R F cn sn (pc + 1) lv (v :: v :: st) ah sz) : zW G M R F cn sn pc lv (v :: st) ah sz :=
  fun p l e s m args below meth c H locs ls X hA hS hL => lv_dup X.1 X.2.1 hd h1 (k p l e s m args below meth c H locs ls X hA hS hL)
theorem z_pop {v : Value} (hd : decode (zcd M) pc = .ok (.pop, 1)) (h1 : v.category = 1) (k : zW G M R F cn sn (pc + 1) lv st ah sz) : zW G M R F cn sn pc lv (v :: st) ah sz :=
  fun p l e s m args below meth c H locs ls X hA hS hL => lv_pop X.1 X.2.1 hd h1 (k p l e s m args below meth c H locs ls X hA hS hL)
theorem z_dup_x1 {v w : Value} (hd : decode (zcd M) pc = .ok (.dup_x1, 1)) (h1 : v.category = 1) (h2 : w.category = 1) (k : zW G M R F cn sn (pc + 1) lv (v :: w :: v :: st) ah sz) : zW G M R F cn sn pc lv (v :: w :: st) ah sz :=
  fun p l e s m args below meth c H locs ls X hA hS hL => lv_dup_x1 X.1 X.2.1 hd h1 h2 (k p l e s m args below meth c H locs ls X hA hS hL)
theorem z_dup_x2 {v w u : Value} (hd : decode (zcd M) pc = .ok (.dup_x2, 1)) (h1 : v.category = 1) (h2 : w.category = 1) (h3 : u.category = 1) (k : zW G M R F cn sn (pc + 1) lv (v :: w :: u :: v :: st) ah sz) : zW G M R F cn sn pc lv (v :: w :: u :: st) ah sz :=
  fun p l e s m args below meth c H locs ls X hA hS hL => lv_dup_x2 X.1 X.2.1 hd h1 h2 h3 (k p l e s m args below meth c H locs ls X hA hS hL)
theorem z_dup2 {v w : Value} (hd : decode (zcd M) pc = .ok (.dup2, 1)) (h1 : v.category = 1) (h2 : w.category = 1) (k : zW G M R F cn sn (pc + 1) lv (v :: w :: v :: w :: st) ah sz) : zW G M R F cn sn pc lv (v :: w :: st) ah sz :=
  fun p l e s m args below meth c H locs ls X hA hS hL => lv_dup2_11 X.1 X.2.1 hd h1 h2 (k p l e s m args below meth c H locs ls X hA hS hL)
theorem z_goto {off : Int} (tgt : Nat) (hd : decode (zcd M) pc = .ok (.goto off, 3)) (ht : (pc : Int) + off = (tgt : Int)) (k : zW G M R F cn sn tgt lv st ah sz) : zW G M R F cn sn pc lv st ah sz :=
  fun p l e s m args below meth c H locs ls X hA hS hL => lv_goto X.1 X.2.1 hd ht (k p l e s m args below meth c H locs ls X hA hS hL)
theorem z_widen {cn' sn' : Nat} (h1 : cn ≤ cn') (h2 : sn ≤ sn') (k : zW G M R F cn' sn' pc lv st ah sz) : zW G M R F cn sn pc lv st ah sz :=
  fun p l e s m args below meth c H locs ls X hA hS hL => W.widen h1 h2 (k p l e s m args below meth c H locs ls X hA hS hL)
theorem z_if_eq {x : Int32} {off : Int} (tgt : Nat) (hd : decode (zcd M) pc = .ok (.ifCond .eq off, 3)) (ht : (pc : Int) + off = (tgt : Int)) (kt : x = 0 → zW G M R F cn sn tgt lv st ah sz) (kf : ¬ x = 0 → zW G M R F cn sn (pc + 3) lv st ah sz) : zW G M R F cn sn pc lv (.int x :: st) ah sz :=
  fun p l e s m args below meth c H locs ls X hA hS hL => lv_if_eq X.1 X.2.1 hd ht (fun q => kt q p l e s m args below meth c H locs ls X hA hS hL) (fun q => kf q p l e s m args below meth c H locs ls X hA hS hL)
theorem z_if_ne {x : Int32} {off : Int} (tgt : Nat) (hd : decode (zcd M) pc = .ok (.ifCond .ne off, 3)) (ht : (pc : Int) + off = (tgt : Int)) (kt : ¬ x = 0 → zW G M R F cn sn tgt lv st ah sz) (kf : x = 0 → zW G M R F cn sn (pc + 3) lv st ah sz) : zW G M R F cn sn pc lv (.int x :: st) ah sz :=
  fun p l e s m args below meth c H locs ls X hA hS hL => lv_if_ne X.1 X.2.1 hd ht (fun q => kt q p l e s m args below meth c H locs ls X hA hS hL) (fun q => kf q p l e s m args below meth c H locs ls X hA hS hL)
theorem z_if_lt {x : Int32} {off : Int} (tgt : Nat) (hd : decode (zcd M) pc = .ok (.ifCond .lt off, 3)) (ht : (pc : Int) + off = (tgt : Int)) (kt : x < 0 → zW G M R F cn sn tgt lv st ah sz) (kf : ¬ x < 0 → zW G M R F cn sn (pc + 3) lv st ah sz) : zW G M R F cn sn pc lv (.int x :: st) ah sz :=
  fun p l e s m args below meth c H locs ls X hA hS hL => lv_if_lt X.1 X.2.1 hd ht (fun q => kt q p l e s m args below meth c H locs ls X hA hS hL) (fun q => kf q p l e s m args below meth c H locs ls X hA hS hL)
theorem z_if_ge {x : Int32} {off : Int} (tgt : Nat) (hd : decode (zcd M) pc = .ok (.ifCond .ge off, 3)) (ht : (pc : Int) + off = (tgt : Int)) (kt : 0 ≤ x → zW G M R F cn sn tgt lv st ah sz) (kf : ¬ 0 ≤ x → zW G M R F cn sn (pc + 3) lv st ah sz) : zW G M R F cn sn pc lv (.int x :: st) ah sz :=
  fun p l e s m args below meth c H locs ls X hA hS hL => lv_if_ge X.1 X.2.1 hd ht (fun q => kt q p l e s m args below meth c H locs ls X hA hS hL) (fun q => kf q p l e s m args below meth c H locs ls X hA hS hL)
theorem z_if_gt {x : Int32} {off : Int} (tgt : Nat) (hd : decode (zcd M) pc = .ok (.ifCond .gt off, 3)) (ht : (pc : Int) + off = (tgt : Int)) (kt : 0 < x → zW G M R F cn sn tgt lv st ah sz) (kf : ¬ 0 < x → zW G M R F cn sn (pc + 3) lv st ah sz) : zW G M R F cn sn pc lv (.int x :: st) ah sz :=
  fun p l e s m args below meth c H locs ls X hA hS hL => lv_if_gt X.1 X.2.1 hd ht (fun q => kt q p l e s m args below meth c H locs ls X hA hS hL) (fun q => kf q p l e s m args below meth c H locs ls X hA hS hL)
theorem z_if_le {x : Int32} {off : Int} (tgt : Nat) (hd : decode (zcd M) pc = .ok (.ifCond .le off, 3)) (ht : (pc : Int) + off = (tgt : Int)) (kt : x ≤ 0 → zW G M R F cn sn tgt lv st ah sz) (kf : ¬ x ≤ 0 → zW G M R F cn sn (pc + 3) lv st ah sz) : zW G M R F cn sn pc lv (.int x :: st) ah sz :=
  fun p l e s m args below meth c H locs ls X hA hS hL => lv_if_le X.1 X.2.1 hd ht (fun q => kt q p l e s m args below meth c H locs ls X hA hS hL) (fun q => kf q p l e s m args below meth c H locs ls X hA hS hL)
theorem z_icmp_eq {x y : Int32} {off : Int} (tgt : Nat) (hd : decode (zcd M) pc = .ok (.if_icmp .eq off, 3)) (ht : (pc : Int) + off = (tgt : Int)) (kt : x = y → zW G M R F cn sn tgt lv st ah sz) (kf : ¬ x = y → zW G M R F cn sn (pc + 3) lv st ah sz) : zW G M R F cn sn pc lv (.int y :: .int x :: st) ah sz :=
  fun p l e s m args below meth c H locs ls X hA hS hL => lv_icmp_eq X.1 X.2.1 hd ht (fun q => kt q p l e s m args below meth c H locs ls X hA hS hL) (fun q => kf q p l e s m args below meth c H locs ls X hA hS hL)
theorem z_icmp_ne {x y : Int32} {off : Int} (tgt : Nat) (hd : decode (zcd M) pc = .ok (.if_icmp .ne off, 3)) (ht : (pc : Int) + off = (tgt : Int)) (kt : ¬ x = y → zW G M R F cn sn tgt lv st ah sz) (kf : x = y → zW G M R F cn sn (pc + 3) lv st ah sz) : zW G M R F cn sn pc lv (.int y :: .int x :: st) ah sz :=
  fun p l e s m args below meth c H locs ls X hA hS hL => lv_icmp_ne X.1 X.2.1 hd ht (fun q => kt q p l e s m args below meth c H locs ls X hA hS hL) (fun q => kf q p l e s m args below meth c H locs ls X hA hS hL)
theorem z_icmp_lt {x y : Int32} {off : Int} (tgt : Nat) (hd : decode (zcd M) pc = .ok (.if_icmp .lt off, 3)) (ht : (pc : Int) + off = (tgt : Int)) (kt : x < y → zW G M R F cn sn tgt lv st ah sz) (kf : ¬ x < y → zW G M R F cn sn (pc + 3) lv st ah sz) : zW G M R F cn sn pc lv (.int y :: .int x :: st) ah sz :=
  fun p l e s m args below meth c H locs ls X hA hS hL => lv_icmp_lt X.1 X.2.1 hd ht (fun q => kt q p l e s m args below meth c H locs ls X hA hS hL) (fun q => kf q p l e s m args below meth c H locs ls X hA hS hL)
theorem z_icmp_ge {x y : Int32} {off : Int} (tgt : Nat) (hd : decode (zcd M) pc = .ok (.if_icmp .ge off, 3)) (ht : (pc : Int) + off = (tgt : Int)) (kt : y ≤ x → zW G M R F cn sn tgt lv st ah sz) (kf : ¬ y ≤ x → zW G M R F cn sn (pc + 3) lv st ah sz) : zW G M R F cn sn pc lv (.int y :: .int x :: st) ah sz :=
  fun p l e s m args below meth c H locs ls X hA hS hL => lv_icmp_ge X.1 X.2.1 hd ht (fun q => kt q p l e s m args below meth c H locs ls X hA hS hL) (fun q => kf q p l e s m args below meth c H locs ls X hA hS hL)
theorem z_icmp_gt {x y : Int32} {off : Int} (tgt : Nat) (hd : decode (zcd M) pc = .ok (.if_icmp .gt off, 3)) (ht : (pc : Int) + off = (tgt : Int)) (kt : y < x → zW G M R F cn sn tgt lv st ah sz) (kf : ¬ y < x → zW G M R F cn sn (pc + 3) lv st ah sz) : zW G M R F cn sn pc lv (.int y :: .int x :: st) ah sz :=
  fun p l e s m args below meth c H locs ls X hA hS hL => lv_icmp_gt X.1 X.2.1 hd ht (fun q => kt q p l e s m args below meth c H locs ls X hA hS hL) (fun q => kf q p l e s m args below meth c H locs ls X hA hS hL)
theorem z_icmp_le {x y : Int32} {off : Int} (tgt : Nat) (hd : decode (zcd M) pc = .ok (.if_icmp .le off, 3)) (ht : (pc : Int) + off = (tgt : Int)) (kt : x ≤ y → zW G M R F cn sn tgt lv st ah sz) (kf : ¬ x ≤ y → zW G M R F cn sn (pc + 3) lv st ah sz) : zW G M R F cn sn pc lv (.int y :: .int x :: st) ah sz :=
  fun p l e s m args below meth c H locs ls X hA hS hL => lv_icmp_le X.1 X.2.1 hd ht (fun q => kt q p l e s m args below meth c H locs ls X hA hS hL) (fun q => kf q p l e s m args below meth c H locs ls X hA hS hL)
def zsw (P : Nat → Prop) (x : Int32) : Nat → List Nat → Prop
  | _, [] => True
  | j, t :: l => (x = nI j → P t) ∧ zsw P x (j + 1) l
theorem zsw_at {P : Nat → Prop} {x : Int32} : ∀ (l : List Nat) (j i t : Nat), zsw P x j l → l[i]? = some t → x = nI (j + i) → P t
  | [], _, _, _, _, h, _ => by cases h
  | u :: l, j, 0, t, hs, h, hx => by
    cases h
    exact hs.1 hx
  | u :: l, j, i + 1, t, hs, h, hx => zsw_at l (j + 1) i t hs.2 h (by rw [hx]; congr 1; omega)
theorem z_table {x : Int32} {dflt lo hi : Int} {offs : Array Int} {len : Nat} (lo' : Nat) (tgts : List Nat) (dft : Nat) (hd : decode (zcd M) pc = .ok (.tableswitch dflt lo hi offs, len))
    (hc : (lo = (lo' : Int) ∧ hi + 1 = (lo' : Int) + (tgts.length : Int) ∧ (pc : Int) + dflt = (dft : Int) ∧ lo' + tgts.length < 2 ^ 31) ∧ offs.toList.map (fun o => (pc : Int) + o) = tgts.map (fun t : Nat => Int.ofNat t))
    (kin : zsw (fun t => zW G M R F cn sn t lv st ah sz) x lo' tgts) (kout : (∀ j, lo' ≤ j → j < lo' + tgts.length → ¬ x = nI j) → zW G M R F cn sn dft lv st ah sz) : zW G M R F cn sn pc lv (.int x :: st) ah sz := by
  intro p l e s m args below meth c H locs ls X hA hS hL
  obtain ⟨⟨rfl, h2, h3, h5⟩, h4⟩ := hc
  by_cases hr : x.toInt < (lo' : Int) ∨ hi < x.toInt
  · refine lv_tableOut X.1 X.2.1 hd hr h3 (kout (fun j hj1 hj2 hx => ?_) p l e s m args below meth c H locs ls X hA hS hL)
    rw [hx, nI_toInt (by omega)] at hr
    omega
  · have h0 : ¬ x < 0 := by
      intro q
      have := Int32.lt_iff_toInt_lt.mp q
      rw [Int32.toInt_zero] at this
      omega
    obtain ⟨j, hj, rfl⟩ := nI_of h0
    rw [nI_toInt hj] at hr
    have hj1 : lo' ≤ j := by omega
    have hjl : j - lo' < tgts.length := by omega
    have ht : tgts[j - lo']? = some tgts[j - lo'] := List.getElem?_eq_getElem hjl
    have h6 : (offs.toList.map (fun o => (pc : Int) + o))[j - lo']? = (tgts.map (fun t : Nat => Int.ofNat t))[j - lo']? := by rw [h4]
    rw [List.getElem?_map, List.getElem?_map, ht] at h6
    cases ho : offs.toList[j - lo']? with
    | none => rw [ho] at h6; cases h6
    | some o =>
      rw [ho] at h6
      have h7 : (pc : Int) + o = ((tgts[j - lo'] : Nat) : Int) := Option.some.inj h6
      have ho2 : offs[j - lo']? = some o := by rw [← Array.getElem?_toList]; exact ho
      refine lv_tableIn (off := o) X.1 X.2.1 hd (by rw [nI_toInt hj]; omega) (by rw [nI_toInt hj]; omega) (by rw [nI_toInt hj, show ((j : Int) - (lo' : Int)).toNat = j - lo' by omega]; exact ho2) h7 ?_
      exact zsw_at tgts lo' (j - lo') _ kin ht (by congr 1; omega) p l e s m args below meth c H locs ls X hA hS hL
/-- a class of the worlds: its name, fields, their types, how many -/
def zCl (ci : Nat) (C : String) (T : u_T) (ty : Nat → FieldType) (N : Nat) : Prop := vwCl[ci]? = some (C, T, N) ∧ (∀ w ∈ u_ws C T N, w ∈ lw_gd) ∧ (∀ k, k < N → parseFieldDescriptor (T k).2.2.1 = some (ty k)) ∧ (∀ a, a < N → ∀ b, b < N → a ≠ b → (T a).2.1 ≠ (T b).2.1)
/-- a field that an instruction names: place k of class ci, of type t, final or not -/
def zFl (own : String) (index ci k : Nat) (t : FieldType) (fin : Bool) : Prop := ∃ (C : String) (T : u_T) (ty : Nat → FieldType) (N : Nat), zCl ci C T ty N ∧ k < N ∧ ty k = t ∧ (T k).2.2.2 = fin ∧ (T k).1 = C ∧ (Cond.fieldLink own index C (T k).2.1 (T k).2.2.1 ∈ lw_gd ∨ ∃ host, Cond.fieldLinkNest own index C (T k).2.1 (T k).2.2.1 host ∈ lw_tbl)
theorem z_getf {ci k index a : Nat} {t : FieldType} {fin : Bool} {fs : List Value} {v : Value} (hf : zFl M.1 index ci k t fin) (hd : decode (zcd M) pc = .ok (.getfield index, 3)) (he : ah a = some (.inr (ci, fs))) (hv : fs[k]? = some v) (kk : zW G M R F cn sn (pc + 3) lv (v :: st) ah sz) : zW G M R F cn sn pc lv (.ref a :: st) ah sz := by
  intro p l e s m args below meth c H locs ls X hA hS hL
  obtain ⟨C, T, ty, N, ⟨h1, h2, h3, h4⟩, hk, rfl, rfl, hC, hl⟩ := hf
  have hP : va_P G.1.1 vwCl [(a, .inr (ci, fs))] H := fun j q hq => by
    cases j with
    | zero => cases hq; exact (hA.2 a _ he).2
    | succ j => cases hq
  rcases hl with hl | ⟨host, hl⟩
  · exact va_get (C := C) (T := T) (N := N) (ref := C) X.1 X.2.1 X.2.2.2.2.2.1 h2 X.2.2.2.2.1 X.2.2.2.2.2.2.2.2.1 hP 0 rfl h1 k hk (X.2.2.2.2.2.1 _ hl) (fun x h => by rw [hC] at h; exact h) hv hd (kk p l e s m args below meth c H locs ls X hA hS hL)
  · exact va_getN (C := C) (T := T) (N := N) (ref := C) X.1 X.2.1 X.2.2.2.2.2.1 h2 X.2.2.2.2.1 X.2.2.2.2.2.2.2.2.1 hP 0 rfl h1 k hk (va_Nw.use rfl (zXn X hl rfl)) (fun x h => by rw [hC] at h; exact h) hv hd (kk p l e s m args below meth c H locs ls X hA hS hL)
theorem zB1 {G : zG} {a : Nat} {e : va_E} (h : zz G ≤ a) : va_D (zB G) [(a, e)] := by
  refine ⟨fun i j p q hi hj _ => ?_, fun k q hk => ?_⟩
  · have h1 : i < 1 := (List.getElem?_eq_some_iff.mp hi).1
    have h2 : j < 1 := (List.getElem?_eq_some_iff.mp hj).1
    omega
  · have h1 : k < 1 := (List.getElem?_eq_some_iff.mp hk).1
    rw [show k = 0 by omega] at hk
    cases hk
    exact h
theorem zP1 {G : zG} {a : Nat} {e : va_E} {H : Heap} (h : va_at G.1.1 vwCl (a, e) H) : va_P G.1.1 vwCl [(a, e)] H := fun j q hq => by
  cases j with
  | zero => cases hq; exact h
  | succ j => cases hq
/-- what lies elsewhere stays: from the frame of one store -/
theorem zA.put {G : zG} {sz a : Nat} {ah : zH} {e : zE} {H H1 : Heap} {locs1 : List Loc} (h : zA G sz ah H) (ha : zz G ≤ a) (hP : va_P G.1.1 vwCl [(a, zcv G e)] H1) (hz : H1.size = H.size) (oq : ∀ q : Nat, q ≠ a → H1[q]? = H[q]?) : zA G sz (zu ah a e) H1 := h.set ha (hP 0 _ rfl) hz oq
theorem z_putf {ci k index a : Nat} {t : FieldType} {fs : List Value} {v : Value} (hf : zFl M.1 index ci k t false) (hd : decode (zcd M) pc = .ok (.putfield index, 3)) (he : ah a = some (.inr (ci, fs))) (hl : k < fs.length) (hn : narrow t v = v ∧ fits t v = true) (kk : zW G M R F cn sn (pc + 3) lv st (zu ah a (.inr (ci, fs.set k v))) sz) : zW G M R F cn sn pc lv (v :: .ref a :: st) ah sz := by
  intro p l e s m args below meth c H locs ls X hA hS hL
  obtain ⟨C, T, ty, N, ⟨h1, h2, h3, h4⟩, hk, rfl, hfin, hC, hlk⟩ := hf
  obtain ⟨hza, hat⟩ := hA.2 a _ he
  have hap := va_apart (own := M.1) X.2.2.2.2.2.1 h2 ty h3 h4 X.2.2.2.2.2.2.2.2.1 h1
  obtain ⟨r, hr1, cell, q1, q2, q3, q4⟩ := hat
  have hr : r = (C, T, N) := Option.some.inj (hr1.symm.trans h1)
  subst hr
  obtain ⟨hSl, hfc, kC, hkC, hkind⟩ := X.2.2.2.2.2.2.2.2.1.1 ci _ h1
  obtain ⟨cf, kf, fi, f, hi, hsl⟩ := hSl k hk
  have hlay := X.2.2.2.2.2.1 _ (h2 _ (u_in_lay hk))
  unfold u_lay at hlay
  rw [if_neg (by rw [hfin]; decide)] at hlay
  have hst := (u_facts hfc hkC (u_lays X.2.2.2.2.2.1 h2 hk) hi).1
  have h6 := u_store hfc hkC hkind hlay hi (h3 k hk) hn.1 hn.2
  have hi' : s.fieldFound? C (T k).2.1 (T k).2.2.1 = some (cf, kf, fi, f) := hC ▸ hi
  have fin : ∀ H' : Heap, H'[a]? = some (cell.setSlot f.slot v) → H'.size = H.size → (∀ q, q ≠ a → H'[q]? = H[q]?) → W p l e R s m args below meth c H' (locs ++ [⟨a, f.slot⟩]) cn sn (F s args below) (F0 m (pc + 3) ls st) := fun H' e1 e2 e3 => by
    rw [hsl] at e1 ⊢
    exact kk p l e s m args below meth c H' _ ls X (hA.set hza ⟨_, h1, t_OB.to (V := updV (vp_V fs) k v) ⟨_, e1, q2, q3, t_set q4 hap hk v⟩ (fun j _ => vp_updV_set hl v j)⟩ e2 e3) (hS.put e2 e3 hza) hL
  rcases hlk with hlk | ⟨host, hlk⟩
  · exact W.putK X.1 X.2.1 (f := f) ⟨X.2.2.2.2.1, X.2.2.2.2.2.1 _ hlk, ⟨_, _, _, hi'⟩, hst⟩ (by rw [q2]; exact h6) q1 q3 (by rw [hsl]; exact k2_hasslot (q4 k hk)) rfl rfl hd fin
  · exact va_WputK X.1 X.2.1 (f := f) X.2.2.2.2.1 (va_Nw.use rfl (zXn X hlk rfl)) hi' hst (by rw [q2]; exact h6) q1 q3 (by rw [hsl]; exact k2_hasslot (q4 k hk)) rfl rfl hd fin
def zFF (own : String) (index ci k : Nat) (t : FieldType) : Prop := ∃ (C : String) (T : u_T) (ty : Nat → FieldType) (N : Nat), zCl ci C T ty N ∧ k < N ∧ ty k = t ∧ (T k).2.2.2 = true ∧ (T k).1 = C ∧ C = own ∧ Cond.fieldLink own index C (T k).2.1 (T k).2.2.1 ∈ lw_gd
theorem z_putF {ci k index a : Nat} {t : FieldType} {fs : List Value} {v : Value} (hf : zFF M.1 index ci k t) (hd : decode (zcd M) pc = .ok (.putfield index, 3)) (he : ah a = some (.inr (ci, fs))) (hM : M.2.1.name = "<init>") (hl : k < fs.length) (hn : narrow t v = v ∧ fits t v = true) (kk : zW G M R F cn sn (pc + 3) lv st (zu ah a (.inr (ci, fs.set k v))) sz) : zW G M R F cn sn pc lv (v :: .ref a :: st) ah sz := by
  intro p l e s m args below meth c H locs ls X hA hS hL
  obtain ⟨C, T, ty, N, ⟨h1, h2, h3, h4⟩, hk, rfl, hfin, hC, hCM, hlk⟩ := hf
  obtain ⟨hza, hat⟩ := hA.2 a _ he
  have hap := va_apart (own := M.1) X.2.2.2.2.2.1 h2 ty h3 h4 X.2.2.2.2.2.2.2.2.1 h1
  obtain ⟨r, hr1, cell, q1, q2, q3, q4⟩ := hat
  have hr : r = (C, T, N) := Option.some.inj (hr1.symm.trans h1)
  subst hr
  obtain ⟨hSl, hfc, kC, hkC, hkind⟩ := X.2.2.2.2.2.2.2.2.1.1 ci _ h1
  obtain ⟨cf, kf, fi, f, hi, hsl⟩ := hSl k hk
  have hlay := X.2.2.2.2.2.1 _ (h2 _ (u_in_lay hk))
  unfold u_lay at hlay
  rw [if_pos hfin] at hlay
  have hst := (u_facts hfc hkC (u_lays X.2.2.2.2.2.1 h2 hk) hi).1
  have hcf : m.cls = cf := by
    obtain ⟨_, _, c', _, _, _, -, -, hf', -, -, -, hown2, -⟩ := Cond.laysFinal_spec hlay
    have e1 : c' = cf := by have := hi.symm.trans hf'; simp at this; exact this.1.symm
    rw [hC, hCM] at hown2
    rw [← e1]; exact Option.some.inj (X.2.2.2.2.1.symm.trans hown2)
  have h6 := u_fits hfc hkC hkind (Or.inr hlay) hi (h3 k hk) hn.1 hn.2
  have hi' : s.fieldFound? C (T k).2.1 (T k).2.2.1 = some (cf, kf, fi, f) := hC ▸ hi
  refine W.putFinK X.1 X.2.1 X.2.2.2.2.1 (X.2.2.2.2.2.1 _ hlk) hi' hst hcf (X.2.2.2.2.2.2.2.1.trans hM) (by rw [q2]; exact h6) q1 q3 (by rw [hsl]; exact k2_hasslot (q4 k hk)) rfl rfl hd fun H' e1 e2 e3 => ?_
  rw [hsl] at e1 ⊢
  exact kk p l e s m args below meth c H' _ ls X (hA.set hza ⟨_, h1, t_OB.to (V := updV (vp_V fs) k v) ⟨_, e1, q2, q3, t_set q4 hap hk v⟩ (fun j _ => vp_updV_set hl v j)⟩ e2 e3) (hS.put e2 e3 hza) hL
/-! arrays -/
theorem z_iald {n a : Nat} {f : Nat → Int32} {i : Int32} (hd : decode (zcd M) pc = .ok (.iaload, 1)) (he : ah a = some (.inl (0, n, .inl f))) (hin : vp_in i n) (kk : zW G M R F cn sn (pc + 1) lv (.int (f i.toNatClampNeg) :: st) ah sz) : zW G M R F cn sn pc lv (.int i :: .ref a :: st) ah sz := by
  intro p l e s m args below meth c H locs ls X hA hS hL
  exact va_iald X.1 X.2.1 X.2.2.2.2.2.2.2.2.1 (zP1 (hA.2 a _ he).2) 0 0 rfl (ztys_at G (by decide)) hin hd (kk p l e s m args below meth c H locs ls X hA hS hL)
theorem z_lald {n a : Nat} {f : Nat → Int64} {i : Int32} (hd : decode (zcd M) pc = .ok (.laload, 1)) (he : ah a = some (.inl (1, n, .inr (.inl f)))) (hin : vp_in i n) (kk : zW G M R F cn sn (pc + 1) lv (.long (f i.toNatClampNeg) :: st) ah sz) : zW G M R F cn sn pc lv (.int i :: .ref a :: st) ah sz := by
  intro p l e s m args below meth c H locs ls X hA hS hL
  exact va_lald X.1 X.2.1 X.2.2.2.2.2.2.2.2.1 (zP1 (hA.2 a _ he).2) 0 1 rfl (ztys_at G (by decide)) hin hd (kk p l e s m args below meth c H locs ls X hA hS hL)
theorem z_bald {n a : Nat} {f : Nat → Int32} {i : Int32} (hd : decode (zcd M) pc = .ok (.baload, 1)) (he : ah a = some (.inl (2, n, .inl f))) (hin : vp_in i n) (kk : zW G M R F cn sn (pc + 1) lv (.int (f i.toNatClampNeg) :: st) ah sz) : zW G M R F cn sn pc lv (.int i :: .ref a :: st) ah sz := by
  intro p l e s m args below meth c H locs ls X hA hS hL
  exact va_bald X.1 X.2.1 X.2.2.2.2.2.2.2.2.1 (zP1 (hA.2 a _ he).2) 0 2 rfl (ztys_at G (by decide)) hin hd (kk p l e s m args below meth c H locs ls X hA hS hL)
theorem z_aald {k n a b : Nat} {f : Nat → Option Nat} {i : Int32} (hk : k < 7 ∧ (zT k).isReference = true) (hd : decode (zcd M) pc = .ok (.aaload, 1)) (he : ah a = some (.inl (k, n, .inr (.inr (.inr (.inr f)))))) (hin : vp_in i n) (hf : f i.toNatClampNeg = some b) (kk : zW G M R F cn sn (pc + 1) lv (.ref b :: st) ah sz) : zW G M R F cn sn pc lv (.int i :: .ref a :: st) ah sz := by
  intro p l e s m args below meth c H locs ls X hA hS hL
  have hlt : i.toNatClampNeg < n := Nat.not_le.mp fun q => hin (Or.inr q)
  have hP : H[a]? = some (vp_cell (G.1.2 k) (n, .inr (.inr (.inr (.inr f))))) := (hA.2 a _ he).2
  refine W.aald (v := .ref b) (ty := zT k) X.1 X.2.1 hP ((X.2.2.2.2.2.2.2.2.1.2 k _ (ztys_at G hk.1)).1 n (fun j => va_rf (f j))) hk.2 (fun q => by cases q) ?_ ?_ rfl rfl hd (kk p l e s m args below meth c H locs ls X hA hS hL)
  · show ¬ (i < 0 ∨ (arrV _ _ _).slots.size ≤ _); rw [arrV_size]; exact hin
  · show (arrV _ _ _).slots[_]? = _; rw [arrV_read _ _ hlt, hf]; rfl
theorem z_iast {n a : Nat} {f : Nat → Int32} {i x : Int32} (hd : decode (zcd M) pc = .ok (.iastore, 1)) (he : ah a = some (.inl (0, n, .inl f))) (hin : vp_in i n) (kk : zW G M R F cn sn (pc + 1) lv st (zu ah a (.inl (0, n, .inl (upd f i.toNatClampNeg x)))) sz) : zW G M R F cn sn pc lv (.int x :: .int i :: .ref a :: st) ah sz := by
  intro p l e s m args below meth c H locs ls X hA hS hL
  obtain ⟨hza, hat⟩ := hA.2 a _ he
  have hP : H[a]? = some (vp_cell (G.1.2 0) (n, .inl f)) := hat
  refine W.iast X.1 X.2.1 hP ((X.2.2.2.2.2.2.2.2.1.2 0 _ (ztys_at G (by decide))).1 n (fun j => .int (f j))) (fun q => by cases q) (by show ¬ (i < 0 ∨ (arrV _ _ _).slots.size ≤ _); rw [arrV_size]; exact hin) rfl rfl hd fun H1 e1 z oq => ?_
  refine kk p l e s m args below meth c H1 _ ls X (hA.set hza ?_ z oq) (hS.put z oq hza) hL
  show H1[a]? = some (vp_cell _ _)
  rw [e1, vp_cell_i, vp_cell_i, arrV_store]
  congr 2
  funext q
  by_cases hq : q = i.toNatClampNeg
  · subst hq
    simp [updV, upd]
  · simp [updV, upd, hq]
theorem z_bast {n a : Nat} {f : Nat → Int32} {i x : Int32} (hd : decode (zcd M) pc = .ok (.bastore, 1)) (he : ah a = some (.inl (2, n, .inl f))) (hin : vp_in i n) (kk : zW G M R F cn sn (pc + 1) lv st (zu ah a (.inl (2, n, .inl (upd f i.toNatClampNeg x.toInt8.toInt32)))) sz) : zW G M R F cn sn pc lv (.int x :: .int i :: .ref a :: st) ah sz := by
  intro p l e s m args below meth c H locs ls X hA hS hL
  obtain ⟨hza, hat⟩ := hA.2 a _ he
  have hP : H[a]? = some (vp_cell (G.1.2 2) (n, .inl f)) := hat
  refine W.bast X.1 X.2.1 hP ((X.2.2.2.2.2.2.2.2.1.2 2 _ (ztys_at G (by decide))).1 n (fun j => .int (f j))) (fun q => by cases q) (by show ¬ (i < 0 ∨ (arrV _ _ _).slots.size ≤ _); rw [arrV_size]; exact hin) rfl rfl hd fun H1 e1 z oq => ?_
  refine kk p l e s m args below meth c H1 _ ls X (hA.set hza ?_ z oq) (hS.put z oq hza) hL
  show H1[a]? = some (vp_cell _ _)
  rw [e1, vp_cell_i, vp_cell_i, arrV_store]
  congr 2
  funext q
  by_cases hq : q = i.toNatClampNeg
  · subst hq
    simp [updV, upd, narrow]
  · simp [updV, upd, hq]
theorem z_last {n a : Nat} {f : Nat → Int64} {i : Int32} {x : Int64} (hd : decode (zcd M) pc = .ok (.lastore, 1)) (he : ah a = some (.inl (1, n, .inr (.inl f)))) (hin : vp_in i n) (kk : zW G M R F cn sn (pc + 1) lv st (zu ah a (.inl (1, n, .inr (.inl (vp_updL f i.toNatClampNeg x))))) sz) : zW G M R F cn sn pc lv (.long x :: .int i :: .ref a :: st) ah sz := by
  intro p l e s m args below meth c H locs ls X hA hS hL
  obtain ⟨hza, hat⟩ := hA.2 a _ he
  have hP : H[a]? = some (vp_cell (G.1.2 1) (n, .inr (.inl f))) := hat
  refine W.last X.1 X.2.1 hP ((X.2.2.2.2.2.2.2.2.1.2 1 _ (ztys_at G (by decide))).1 n (fun j => .long (f j))) (fun q => by cases q) (by show ¬ (i < 0 ∨ (arrV _ _ _).slots.size ≤ _); rw [arrV_size]; exact hin) rfl rfl hd fun H1 e1 z oq => ?_
  refine kk p l e s m args below meth c H1 _ ls X (hA.set hza ?_ z oq) (hS.put z oq hza) hL
  show H1[a]? = some (vp_cell _ _)
  rw [e1, vp_cell_l, vp_cell_l, arrV_store]
  congr 2
  funext q
  by_cases hq : q = i.toNatClampNeg
  · subst hq
    simp [updV, vp_updL]
  · simp [updV, vp_updL, hq]
theorem z_aast {k n a v ci : Nat} {f : Nat → Option Nat} {fs : List Value} {i : Int32} (hk : k < 7) {C : String} (hkC : zT k = .object C ∧ (vwCl[ci]?).map (·.1) = some C) (hd : decode (zcd M) pc = .ok (.aastore, 1)) (he : ah a = some (.inl (k, n, .inr (.inr (.inr (.inr f)))))) (hv : ah v = some (.inr (ci, fs))) (hin : vp_in i n) (kk : zW G M R F cn sn (pc + 1) lv st (zu ah a (.inl (k, n, .inr (.inr (.inr (.inr (va_up f i.toNatClampNeg (some v)))))))) sz) : zW G M R F cn sn pc lv (.ref v :: .int i :: .ref a :: st) ah sz := by
  intro p l e s m args below meth c H locs ls X hA hS hL
  obtain ⟨hza, hat⟩ := hA.2 a _ he
  have hP : H[a]? = some (vp_cell (G.1.2 k) (n, .inr (.inr (.inr (.inr f))))) := hat
  have hlt : i.toNatClampNeg < n := Nat.not_le.mp fun q => hin (Or.inr q)
  have h0 : ¬ i < 0 := fun q => hin (Or.inl q)
  obtain ⟨r, hr1, cellV, g1, g2, g3, -⟩ := (hA.2 v _ hv).2
  have hr : r.1 = C := by
    have := hkC.2
    rw [hr1] at this
    exact Option.some.inj this
  have hcls := (X.2.2.2.2.2.2.2.2.1.1 ci r hr1).2
  have hra := (X.2.2.2.2.2.2.2.2.1.2 k _ (ztys_at G hk)).2
  rw [hkC.1] at hra
  obtain ⟨kA, comp, k1, k2, k3, -⟩ := hra
  have hcomp : comp = G.1.1.1 ci := Option.some.inj (k3.symm.trans (hr ▸ hcls.1))
  subst hcomp
  obtain ⟨kC, hkC2, -⟩ := hcls.2
  refine W.aast X.1 X.2.1 hP (fun q h => by cases h) (fun h => by cases h) k1 k2 rfl hkC2 ⟨h0, by show _ < (arrV _ _ _).slots.size; rw [arrV_size]; exact hlt⟩ g1 (fun q h => by rw [g3] at h; cases h) (by rw [g2]; exact hkC2) (by rw [g2]; exact va_assign hcls) rfl rfl hd fun H1 e1 z oq => ?_
  refine kk p l e s m args below meth c H1 _ ls X (hA.set hza ?_ z oq) (hS.put z oq hza) hL
  show H1[a]? = some (vp_cell _ _)
  rw [e1, vp_cell_q, vp_cell_q, arrV_store]
  congr 2
  funext q
  by_cases hq : q = i.toNatClampNeg
  · subst hq
    simp [updV, va_up, va_rf]
  · simp [updV, va_up, hq]
theorem z_alen {k a : Nat} {x : vp_A} (v : Int32) (hd : decode (zcd M) pc = .ok (.arraylength, 1)) (hk : k < 7) (he : ah a = some (.inl (k, x))) (hv : Int32.ofNat x.1 = v) (kk : zW G M R F cn sn (pc + 1) lv (.int v :: st) ah sz) : zW G M R F cn sn pc lv (.ref a :: st) ah sz := by
  intro p l e s m args below meth c H locs ls X hA hS hL
  exact va_alen X.1 X.2.1 X.2.2.2.2.2.2.2.2.1 (zP1 (hA.2 a _ he).2) 0 k rfl (ztys_at G hk) hv hd (kk p l e s m args below meth c H locs ls X hA hS hL)
/-! the law's script, the literals, a static -/
theorem z_sld {i : Int32} (hd : decode (zcd M) pc = .ok (.iaload, 1)) (hin : vp_in i (zbL G)) (kk : zW G M R F cn sn (pc + 1) lv (.int (zbx G i.toNatClampNeg) :: st) ah sz) : zW G M R F cn sn pc lv (.int i :: .ref (zb G) :: st) ah sz := by
  intro p l e s m args below meth c H locs ls X hA hS hL
  have hK := X.2.2.2.2.2.2.2.2
  have hbz := hK.2.2.2.2.1.2
  exact va_sld X.1 X.2.1 hK.2.2.2.2.1.1 (Nat.lt_of_lt_of_le hbz hK.2.2.2.2.2.1) (Nat.not_le.mpr hbz) hS hin hd (kk p l e s m args below meth c H locs ls X hA hS hL)
theorem z_slen (hd : decode (zcd M) pc = .ok (.arraylength, 1)) (kk : zW G M R F cn sn (pc + 1) lv (.int (Int32.ofNat (zbL G)) :: st) ah sz) : zW G M R F cn sn pc lv (.ref (zb G) :: st) ah sz := by
  intro p l e s m args below meth c H locs ls X hA hS hL
  have hK := X.2.2.2.2.2.2.2.2
  have hbz := hK.2.2.2.2.1.2
  exact va_slen X.1 X.2.1 hK.2.2.2.2.1.1 (Nat.lt_of_lt_of_le hbz hK.2.2.2.2.2.1) (Nat.not_le.mpr hbz) hS hd (kk p l e s m args below meth c H locs ls X hA hS hL)
theorem z_gets {index : Nat} (hl : Cond.fieldLink M.1 index "java/lang/String" "COMPACT_STRINGS" "Z" ∈ lw_gd) (hd : decode (zcd M) pc = .ok (.getstatic index, 3)) (kk : zW G M R F cn sn (pc + 3) lv (.int 1 :: st) ah sz) : zW G M R F cn sn pc lv st ah sz := by
  intro p l e s m args below meth c H locs ls X hA hS hL
  exact va_gets X.1 X.2.1 X.2.2.2.2.2.2.2.2.2.1 hS X.2.2.2.2.1 (X.2.2.2.2.2.1 _ hl) (fun _ h => h) hd (kk p l e s m args below meth c H locs ls X hA hS hL)
theorem z_getsF {index : Nat} (hl : Cond.fieldLink M.1 index "jdk/internal/util/Preconditions" "SIOOBE_FORMATTER" "Ljava/util/function/BiFunction;" ∈ lw_gd) (hd : decode (zcd M) pc = .ok (.getstatic index, 3)) (kk : (zfv G).category = 1 → zW G M R F cn sn (pc + 3) lv (zfv G :: st) ah sz) : zW G M R F cn sn pc lv st ah sz := by
  intro p l e s m args below meth c H locs ls X hA hS hL
  exact va_gets X.1 X.2.1 X.2.2.2.2.2.2.2.2.2.2.2.2.2.2.1 hS X.2.2.2.2.1 (X.2.2.2.2.2.1 _ hl) (fun _ h => h) hd (kk X.2.2.2.2.2.2.2.2.2.2.2.2.2.2.2.1 p l e s m args below meth c H locs ls X hA hS hL)
theorem z_getSv {index i : Nat} (hi : i < 7) (hl : Cond.fieldLink M.1 index "java/lang/String" "value" "[B" ∈ lw_gd) (hd : decode (zcd M) pc = .ok (.getfield index, 3)) (kk : zW G M R F cn sn (pc + 3) lv (.ref (zsV G i) :: st) ah sz) : zW G M R F cn sn pc lv (.ref (zsK G i) :: st) ah sz := by
  intro p l e s m args below meth c H locs ls X hA hS hL
  exact vk_getf X.1 X.2.1 (X.2.2.2.2.2.2.2.2.2.2.1.1 i hi).2.2.1 hS X.2.2.2.2.1 (X.2.2.2.2.2.1 _ hl) (fun _ h => h) hd (kk p l e s m args below meth c H locs ls X hA hS hL)
theorem z_getSc {index i : Nat} (hi : i < 7) (hl : Cond.fieldLink M.1 index "java/lang/String" "coder" "B" ∈ lw_gd) (hd : decode (zcd M) pc = .ok (.getfield index, 3)) (kk : zW G M R F cn sn (pc + 3) lv (.int 0 :: st) ah sz) : zW G M R F cn sn pc lv (.ref (zsK G i) :: st) ah sz := by
  intro p l e s m args below meth c H locs ls X hA hS hL
  exact vk_getf X.1 X.2.1 (X.2.2.2.2.2.2.2.2.2.2.1.1 i hi).2.1 hS X.2.2.2.2.1 (X.2.2.2.2.2.1 _ hl) (fun _ h => h) hd (kk p l e s m args below meth c H locs ls X hA hS hL)
theorem z_baldS {i : Nat} {j : Int32} (hi : i < 7) (hd : decode (zcd M) pc = .ok (.baload, 1)) (hin : vp_in j (zlen.getD i 0)) (kk : zW G M R F cn sn (pc + 1) lv (.int ((zbyt.getD i []).getD j.toNatClampNeg 0) :: st) ah sz) : zW G M R F cn sn pc lv (.int j :: .ref (zsV G i) :: st) ah sz := by
  intro p l e s m args below meth c H locs ls X hA hS hL
  exact va_tb X.1 X.2.1 (X.2.2.2.2.2.2.2.2.2.2.1.1 i hi).2.2.2 hS hin rfl hd (kk p l e s m args below meth c H locs ls X hA hS hL)
theorem z_alenS {i : Nat} (v : Int32) (hi : i < 7) (hv : Int32.ofNat (zlen.getD i 0) = v) (hd : decode (zcd M) pc = .ok (.arraylength, 1)) (kk : zW G M R F cn sn (pc + 1) lv (.int v :: st) ah sz) : zW G M R F cn sn pc lv (.ref (zsV G i) :: st) ah sz := by
  intro p l e s m args below meth c H locs ls X hA hS hL
  exact va_tlen X.1 X.2.1 (X.2.2.2.2.2.2.2.2.2.2.1.1 i hi).2.2.2 hS hv hd (kk p l e s m args below meth c H locs ls X hA hS hL)
/-! new cells -/
theorem z_new {ci index N : Nat} {C : String} {fs : List Value} (hf : ∃ (T : u_T) (ty : Nat → FieldType), zCl ci C T ty N ∧ ∀ j, j < N → defaultValue (ty j) = vp_V fs j) (hl : Cond.classLink M.1 index C ∈ lw_gd ∧ Cond.instantiable C N ∈ lw_gd ∧ Cond.initialized C ∈ lw_gd) (hd : decode (zcd M) pc = .ok (.new index, 3)) (hr : cn + 1 ≤ R.cells ∧ sn + N ≤ R.slots)
    (kk : zW G M R F (cn + 1) (sn + N) (pc + 3) lv (.ref sz :: st) (zu ah sz (.inr (ci, fs))) (sz + 1)) : zW G M R F cn sn pc lv st ah sz := by
  intro p l e s m args below meth c H locs ls X hA hS hL
  obtain ⟨T, ty, ⟨h1, h2, h3, h4⟩, hfs⟩ := hf
  have hKn := X.2.2.2.2.2.2.2.2.1.1 ci _ h1
  have hzz : zz G ≤ H.size := Nat.le_trans X.2.2.2.2.2.2.2.2.2.2.2.2.2.1 hS.1
  refine W.newcK X.1 X.2.1 X.2.2.2.2.1 (X.2.2.2.2.2.1 _ hl.1) (X.2.2.2.2.2.1 _ hl.2.1) (X.2.2.2.2.2.1 _ hl.2.2) rfl hd hr.1 hr.2 hKn.2.1 hA.1 fun H1 kC hkC e1 z1 o1 => ?_
  refine kk p l e s m args below meth c H1 locs ls X (hA.new hzz ⟨_, h1, (u_born ty X.2.2.2.2.2.1 h2 hKn hkC e1 h3).to hfs⟩ z1 o1) ⟨Nat.le_trans hS.1 (by rw [z1, hA.1]; omega), fun q g1 g2 => (o1 q (by rw [← hA.1]; exact Nat.lt_of_lt_of_le g1 hS.1)).trans (hS.2.1 q g1 g2), hS.2.2⟩ hL
theorem z_newa {k N : Nat} {atype : ArrayType} {a0 : vp_A} {n : Int32} (hl : Cond.arrayClass (newarray.typeOf atype) ∈ lw_gd) (hk : k < 3 ∧ zT k = newarray.typeOf atype) (ha : ∀ cA : ClassId, vp_cell cA a0 = arrV cA N (fun _ => defaultValue (newarray.typeOf atype))) (hn : ¬ n < 0 ∧ n.toNatClampNeg = N) (hb : N * componentBytes (newarray.typeOf atype) ≤ 536870912) (hd : decode (zcd M) pc = .ok (.newarray atype, 2)) (hr : cn + 1 ≤ R.cells ∧ sn + N ≤ R.slots)
    (kk : zW G M R F (cn + 1) (sn + N) (pc + 2) lv (.ref sz :: st) (zu ah sz (.inl (k, a0))) (sz + 1)) : zW G M R F cn sn pc lv (.int n :: st) ah sz := by
  intro p l e s m args below meth c H locs ls X hA hS hL
  have hzz : zz G ≤ H.size := Nat.le_trans X.2.2.2.2.2.2.2.2.2.2.2.2.2.1 hS.1
  refine va_newaK X.1 X.2.1 (X.2.2.2.2.2.1 _ hl) rfl hd rfl hn.1 hn.2 hb hr.1 hr.2 hA.1 fun H1 cA e1 z1 o1 _ hNm => ?_
  have hra := (X.2.2.2.2.2.2.2.2.1.2 k _ (ztys_at G (Nat.lt_trans hk.1 (by decide)))).2
  have hcA : cA = G.1.2 k := by
    have h9 : s.vm.findClass ("[" ++ (zT k).toString) = some (G.1.2 k) := by
      match k, hk with
      | 0, _ => exact hra
      | 1, _ => exact hra
      | 2, _ => exact hra
      | k + 3, hk => omega
    rw [hk.2] at h9
    exact Option.some.inj (hNm.symm.trans h9)
  subst hcA
  refine kk p l e s m args below meth c H1 locs ls X (hA.new hzz (show H1[sz]? = some (vp_cell _ _) by rw [ha]; exact e1) z1 o1) ⟨Nat.le_trans hS.1 (by rw [z1, hA.1]; omega), fun q g1 g2 => (o1 q (by rw [← hA.1]; exact Nat.lt_of_lt_of_le g1 hS.1)).trans (hS.2.1 q g1 g2), hS.2.2⟩ hL
theorem z_anew {k N index : Nat} {C : String} {n : Int32} (hl : Cond.classLink M.1 index C ∈ lw_gd ∧ Cond.arrayOver (.object C) ∈ lw_tbl) (hk : k < 7 ∧ zT k = .object C) (hn : ¬ n < 0 ∧ n.toNatClampNeg = N) (hb : N * 4 ≤ 536870912) (hd : decode (zcd M) pc = .ok (.anewarray index, 3)) (hr : cn + 1 ≤ R.cells ∧ sn + N ≤ R.slots)
    (kk : zW G M R F (cn + 1) (sn + N) (pc + 3) lv (.ref sz :: st) (zu ah sz (.inl (k, N, .inr (.inr (.inr (.inr (fun _ => none))))))) (sz + 1)) : zW G M R F cn sn pc lv (.int n :: st) ah sz := by
  intro p l e s m args below meth c H locs ls X hA hS hL
  obtain ⟨hn0, rfl⟩ := hn
  obtain ⟨rfl, hA2⟩ := hA
  have hzz : zz G ≤ H.size := Nat.le_trans X.2.2.2.2.2.2.2.2.2.2.2.2.2.1 hS.1
  refine W.anew X.1 X.2.1 X.2.2.2.2.1 (X.2.2.2.2.2.1 _ hl.1) (va_AO.use (X.2.2.2.2.2.2.2.2.2.2.2.2.2.2.2.2.2 C hl.2)) rfl hd rfl hn0 hb hr.1 hr.2 fun cA kA comp f1 f2 f3 f4 => ?_
  generalize hH1 : H.push ({ cls := cA, slots := Array.replicate n.toNatClampNeg .null, vm := .none } : Cell) = H1
  have z1 : H1.size = H.size + 1 := by rw [← hH1, Array.size_push]
  have e1 : H1[H.size]? = some (arrV cA n.toNatClampNeg (fun _ => .null)) := by rw [← hH1, Array.getElem?_push_size, ← arrV_new]
  have o1 : ∀ q : Nat, q < H.size → H1[q]? = H[q]? := fun q hq => by rw [← hH1, Array.getElem?_push, if_neg (Nat.ne_of_lt hq)]
  have hra := (X.2.2.2.2.2.2.2.2.1.2 k _ (ztys_at G hk.1)).2
  rw [hk.2] at hra
  obtain ⟨kA', comp', g1, g2, g3, g4⟩ := hra
  have hcA : cA = G.1.2 k := Option.some.inj (f1.symm.trans g4)
  subst hcA
  refine kk p l e s m args below meth c H1 locs ls X (zA.new ⟨rfl, hA2⟩ hzz (show H1[H.size]? = some (vp_cell _ _) from e1) z1 o1) ⟨Nat.le_trans hS.1 (by rw [z1]; omega), fun q g1 g2 => (o1 q (Nat.lt_of_lt_of_le g1 hS.1)).trans (hS.2.1 q g1 g2), hS.2.2⟩ hL
theorem z_objInit {index a : Nat} (hl : Cond.methodLink M.1 index Lib.objectInit ∈ lw_gd ∧ Cond.instanceMethod Lib.objectInit ∈ lw_gd ∧ Cond.code Lib.objectInit ⟨#[0xb1]⟩ 1 none ∈ lw_gd) (hd : decode (zcd M) pc = .ok (.invokespecial index, 3)) (hr : 1 ≤ R.frames ∧ (st.map fun v => v.category).sum + 12 ≤ R.locals) (kk : zW G M R F cn sn (pc + 3) lv st ah sz) : zW G M R F cn sn pc lv (.ref a :: st) ah sz := by
  intro p l e s m args below meth c H locs ls X hA hS hL
  exact W.objInit X.1 X.2.1 X.2.2.2.2.1 (X.2.2.2.2.2.1 _ hl.1) (X.2.2.2.2.2.1 _ hl.2.1) (X.2.2.2.2.2.1 _ hl.2.2) rfl (by rw [X.2.2.2.1]; exact hL.1) rfl hd hr.1 (by show 2 * 0 + _ + 12 ≤ _; omega) (kk p l e s m args below meth c H locs ls X hA hS hL)
/-! returns -/
section ZRet
variable {Q : zPost} {mc ms : Nat}
theorem z_ireturn {v : Int32} {t : FieldType} (hd : decode (zcd M) pc = .ok (.ireturn, 1)) (hr : zrt M = some t) (hn : narrow t (.int v) = .int v) (hc : cn ≤ mc ∧ sn ≤ ms) (hq : Q (some (.int v)) ah sz) : zW G M R (zFm G Q mc ms) cn sn pc lv [.int v] ah sz := by
  intro p l e s m args below meth c H locs ls X hA hS hL
  refine W.widen hc.1 hc.2 ?_
  exact W.zret X.1 X.2.1 (X.2.2.1.trans hr) hn (fun t ht _ => ⟨⟨_, ah, sz, rfl, hq, by rw [ht]; exact hA⟩, hS.F ht⟩) hS.2.2 hd X.2.2.2.2.2.2.1
theorem z_lreturn {v : Int64} (hd : decode (zcd M) pc = .ok (.lreturn, 1)) (hr : zrt M = some .long) (hc : cn ≤ mc ∧ sn ≤ ms) (hq : Q (some (.long v)) ah sz) : zW G M R (zFm G Q mc ms) cn sn pc lv [.long v] ah sz := by
  intro p l e s m args below meth c H locs ls X hA hS hL
  refine W.widen hc.1 hc.2 ?_
  exact W.lret X.1 X.2.1 (X.2.2.1.trans hr) (fun t ht _ => ⟨⟨_, ah, sz, rfl, hq, by rw [ht]; exact hA⟩, hS.F ht⟩) hS.2.2 hd X.2.2.2.2.2.2.1
theorem z_areturn {a : Nat} {C : String} (hd : decode (zcd M) pc = .ok (.areturn, 1)) (hr : zrt M = some (.object C)) (hc : cn ≤ mc ∧ sn ≤ ms) (hq : Q (some (.ref a)) ah sz) : zW G M R (zFm G Q mc ms) cn sn pc lv [.ref a] ah sz := by
  intro p l e s m args below meth c H locs ls X hA hS hL
  refine W.widen hc.1 hc.2 ?_
  exact W.aret X.1 X.2.1 (X.2.2.1.trans hr) (Or.inl ⟨C, rfl⟩) (Or.inr ⟨a, rfl⟩) (fun t ht _ => ⟨⟨_, ah, sz, rfl, hq, by rw [ht]; exact hA⟩, hS.F ht⟩) hS.2.2 hd X.2.2.2.2.2.2.1
theorem z_return (hd : decode (zcd M) pc = .ok (.return_, 1)) (hr : zrt M = none) (hc : cn ≤ mc ∧ sn ≤ ms) (hq : Q none ah sz) : zW G M R (zFm G Q mc ms) cn sn pc lv [] ah sz := by
  intro p l e s m args below meth c H locs ls X hA hS hL
  refine W.widen hc.1 hc.2 ?_
  exact W.vret X.1 X.2.1 (X.2.2.1.trans hr) (fun t ht _ => ⟨⟨_, ah, sz, rfl, hq, by rw [ht]; exact hA⟩, hS.F ht⟩) hS.2.2 hd X.2.2.2.2.2.2.1
end ZRet
/-! calls -/
theorem zPc_blind {av : List Value} : FrameBlind (zPc G av ah sz) := fun a U g mk h => ⟨h.1, h.2.1, zK.same (s := U) rfl h.2.2⟩
theorem z_goes {M' : zM} {d' mc ms : Nat} {a : Array Value} {st0 rest : List Value} {Q : zPost} {p : Program} {l : Launch} {e : Env} {s : State} {m : MethodId} {args : Array Value} {below : List Frame} {meth : Method} {c : Code} {H : Heap} {locs : List Loc} {ls : Array Slot}
    (hr : va_Run p l e R s m args below meth c H locs cn sn mc ms (F0 m pc ls st0) rest (zQ G Q a) (zB G)) (hS : va_S (zB G) s.heap H locs)
    (kk : ∀ (r : Option Value) (ah' : zH) (sz' : Nat) (H1 : Heap) (locs1 : List Loc), Q r ah' sz' → zA G sz' ah' H1 → va_S (zB G) s.heap H1 locs1 → W p l e R s m args below meth c H1 locs1 (cn + mc) (sn + ms) (F s args below) (F0 m (pc + 3) ls (r.toList ++ rest))) :
    W p l e R s m args below meth c H locs cn sn (F s args below) (F0 m pc ls st0) := by
  intro T hT X
  obtain ⟨v, st₀, t, T', L, h0, X', hL, e1, e2, ⟨⟨r, ah', sz', hv, hq, hA'⟩, hz, hk⟩, st⟩ := hr T hT X
  cases hv
  rw [h0] at hz hk
  obtain ⟨t2, a1, b1⟩ := kk v ah' sz' T'.heap (locs ++ L) hq (by rw [e1]; exact hA')
    ⟨Nat.le_trans hS.1 (by rw [e1]; exact hz), fun q h1 h2 => by rw [e1, hk q (Nat.lt_of_lt_of_le h1 hS.1) h2]; exact hS.2.1 q h1 h2, fun q hq => by
      rcases List.mem_append.mp hq with h | h
      · exact hS.2.2 q h
      · exact hL q h⟩ T' rfl X'
  exact ⟨t2, st t2 a1, b1⟩
theorem lw_good : GoodIn lw_gd lw_gd := fun w h => ⟨h, good_of_word (List.mem_filter.mp h).2⟩
/-- a call's link, but for its kind -/
def zLk (own : String) (index : Nat) (M' : zM) (n : Nat) : Prop := Cond.code M'.2.1 (zcd M') (zml M') (zrt M') ∈ lw_gd ∧ Cond.initialized M'.2.1.cls ∈ lw_gd ∧ (M'.2.1.cls ≠ "java/lang/invoke/MethodHandle" ∧ M'.2.1.cls ≠ "java/lang/invoke/VarHandle" ∧ (parseMethodDescriptor M'.2.1.desc).map (fun d => d.parameters.length) = some n)
def zLV (own : String) (index : Nat) (M' : zM) (ci n : Nat) : Prop := zLk own index M' n ∧ Cond.methodLink own index M'.2.1 ∈ lw_gd ∧ Cond.instanceMethod M'.2.1 ∈ lw_gd ∧ Cond.selects M'.2.1.cls M'.2.1 M'.2.1 ∈ lw_gd ∧ (vwCl[ci]?).map (·.1) = some M'.2.1.cls
def zLS (own : String) (index : Nat) (M' : zM) (n : Nat) : Prop := zLk own index M' n ∧ Cond.methodLink own index M'.2.1 ∈ lw_gd ∧ Cond.static M'.2.1 ∈ lw_gd
def zLI (own : String) (index : Nat) (M' : zM) (n : Nat) : Prop := zLk own index M' n ∧ (Cond.methodLink own index M'.2.1 ∈ lw_gd ∨ ∃ host, Cond.methodLinkNest own index M'.2.1 host ∈ lw_tbl) ∧ Cond.instanceMethod M'.2.1 ∈ lw_gd ∧ M'.2.1.name = "<init>" ∧ zrt M' = none
theorem zGoodC {M' : zM} (h : Cond.code M'.2.1 (zcd M') (zml M') (zrt M') ∈ lw_gd) : GoodIn lw_gd (Cond.code M'.2.1 (zcd M') (zml M') (zrt M') :: lw_gd) := fun w hw => by
  rcases List.mem_cons.mp hw with rfl | hw
  · exact lw_good _ h
  · exact lw_good _ hw
theorem zK.call {p : Program} {s U : State} {m : MethodId} {args : Array Value} {meth : Method} {c : Code} {H : Heap} {locs : List Loc} (X : zX G M p s m args meth c) (hS : va_S (zB G) s.heap H locs) (hU : U.heap = H) (hW : s.WarmedH U.vm) : zK G U U.heap := by
  rw [hU]
  exact (X.2.2.2.2.2.2.2.2.kept hS.1 hS.2.1).warm hW
abbrev zRR (R : Room) (M' : zM) (d' mc ms cn sn : Nat) : Prop := (d' + 1 ≤ R.frames ∧ 8 + (zml M' + 11) + 40 * d' ≤ R.locals) ∧ cn + mc ≤ R.cells ∧ sn + ms ≤ R.slots
theorem z_callV {M' : zM} {d' mc ms n ci index b : Nat} {fs As rest : List Value} {Q : zPost} (hlk : zLV M.1 index M' ci n) (hc : zC G M' d' mc ms (.ref b :: As) ah sz Q) (hb : ah b = some (.inr (ci, fs))) (hd : decode (zcd M) pc = .ok (.invokevirtual index, 3)) (hst : st = As.reverse ++ .ref b :: rest) (hn : As.length = n) (hro : (rest.map fun v => v.category).sum ≤ 8) (hR : zRR R M' d' mc ms cn sn)
    (k : ∀ (r : Option Value) (ah' : zH) (sz' : Nat), Q r ah' sz' → zW G M R F (cn + mc) (sn + ms) (pc + 3) lv (r.toList ++ rest) ah' sz') : zW G M R F cn sn pc lv st ah sz := by
  intro p l e s m args below meth c H locs ls X hA hS hL
  obtain ⟨⟨h1, h2, h3⟩, h4, h5, h6, h7⟩ := hlk
  have ok : ∀ w ∈ lw_gd, w.before args s = true := X.2.2.2.2.2.1
  have cb := callB_of (R := R) (own := M.1) (index := index) (y := M'.2.1) (bytes := zcd M') (maxL := zml M') (ret := zrt M') (rm := zRm d' mc ms) (mc := mc) (ms := ms) n ok (zGoodC h1) rfl rfl rfl (ok _ h2) (ok _ h4) h3 hR.1
  obtain ⟨r, g1, cell, g2, g3, g4, -⟩ := (hA.2 b _ hb).2
  have hr : r.1 = M'.2.1.cls := by rw [g1] at h7; exact Option.some.inj h7
  have hrc : ∃ cellB : Cell, H[b]? = some cellB ∧ cellB.vm.isStatics = false ∧ s.vm.findClass M'.2.1.cls = some cellB.cls := ⟨cell, g2, by rw [g4]; rfl, by rw [g3, ← hr]; exact (X.2.2.2.2.2.2.2.2.1.1 ci r g1).2.1⟩
  refine z_goes (M' := M') (d' := d') (va_runV (As := As) (rest := rest) ⟨X.1, X.2.1, X.2.2.2.1, X.2.2.2.2.1, ok⟩ (hc l) ⟨cb, ok _ h5, ok _ h6⟩ ⟨zPc_blind, hrc, fun U hU hW => ⟨rfl, by rw [hU]; exact hA, zK.call X hS hU hW⟩⟩ rfl hn hL.1 hst (lv_room hro) hd hR.2) hS (fun r ah' sz' H1 locs1 hq hA1 hS1 => ?_)
  exact k r ah' sz' hq p l e s m args below meth c H1 locs1 ls X hA1 hS1 hL
theorem z_callVS {M' : zM} {d' n i index : Nat} {As rest : List Value} {Q : zPost} (hi : i < 7) (hcl : M'.2.1.cls = "java/lang/String") (hlk : zLk M.1 index M' n ∧ Cond.methodLink M.1 index M'.2.1 ∈ lw_gd ∧ Cond.instanceMethod M'.2.1 ∈ lw_gd ∧ Cond.selects M'.2.1.cls M'.2.1 M'.2.1 ∈ lw_gd) (hc : zC G M' d' 0 0 (.ref (zsK G i) :: As) ah sz Q) (hd : decode (zcd M) pc = .ok (.invokevirtual index, 3)) (hst : st = As.reverse ++ .ref (zsK G i) :: rest) (hn : As.length = n) (hro : (rest.map fun v => v.category).sum ≤ 8) (hR : zRR R M' d' 0 0 cn sn)
    (k : ∀ (r : Option Value) (ah' : zH) (sz' : Nat), Q r ah' sz' → zW G M R F cn sn (pc + 3) lv (r.toList ++ rest) ah' sz') : zW G M R F cn sn pc lv st ah sz := by
  intro p l e s m args below meth c H locs ls X hA hS hL
  obtain ⟨⟨h1, h2, h3⟩, h4, h5, h6⟩ := hlk
  have ok : ∀ w ∈ lw_gd, w.before args s = true := X.2.2.2.2.2.1
  have cb := callB_of (R := R) (own := M.1) (index := index) (y := M'.2.1) (bytes := zcd M') (maxL := zml M') (ret := zrt M') (rm := zRm d' 0 0) (mc := 0) (ms := 0) n ok (zGoodC h1) rfl rfl rfl (ok _ h2) (ok _ h4) h3 hR.1
  have hrc : ∃ cellB : Cell, H[zsK G i]? = some cellB ∧ cellB.vm.isStatics = false ∧ s.vm.findClass M'.2.1.cls = some cellB.cls := by rw [hcl]; exact vk_recv X.2.2.2.2.2.2.2.2.2.2.1 hi hS
  refine z_goes (M' := M') (d' := d') (va_runV (As := As) (rest := rest) ⟨X.1, X.2.1, X.2.2.2.1, X.2.2.2.2.1, ok⟩ (hc l) ⟨cb, ok _ h5, ok _ h6⟩ ⟨zPc_blind, hrc, fun U hU hW => ⟨rfl, by rw [hU]; exact hA, zK.call X hS hU hW⟩⟩ rfl hn hL.1 hst (lv_room hro) hd hR.2) hS (fun r ah' sz' H1 locs1 hq hA1 hS1 => ?_)
  exact k r ah' sz' hq p l e s m args below meth c H1 locs1 ls X hA1 hS1 hL
theorem z_callS {M' : zM} {d' mc ms n index : Nat} {As rest : List Value} {Q : zPost} (hlk : zLS M.1 index M' n) (hc : zC G M' d' mc ms As ah sz Q) (hd : decode (zcd M) pc = .ok (.invokestatic index, 3)) (hst : st = As.reverse ++ rest) (hn : As.length = n) (hro : (rest.map fun v => v.category).sum ≤ 8) (hR : zRR R M' d' mc ms cn sn)
    (k : ∀ (r : Option Value) (ah' : zH) (sz' : Nat), Q r ah' sz' → zW G M R F (cn + mc) (sn + ms) (pc + 3) lv (r.toList ++ rest) ah' sz') : zW G M R F cn sn pc lv st ah sz := by
  intro p l e s m args below meth c H locs ls X hA hS hL
  obtain ⟨⟨h1, h2, h3⟩, h4, h5⟩ := hlk
  have ok : ∀ w ∈ lw_gd, w.before args s = true := X.2.2.2.2.2.1
  have cb := callB_of (R := R) (own := M.1) (index := index) (y := M'.2.1) (bytes := zcd M') (maxL := zml M') (ret := zrt M') (rm := zRm d' mc ms) (mc := mc) (ms := ms) n ok (zGoodC h1) rfl rfl rfl (ok _ h2) (ok _ h4) h3 hR.1
  refine z_goes (M' := M') (d' := d') (va_runS (As := As) (rest := rest) ⟨X.1, X.2.1, X.2.2.2.1, X.2.2.2.2.1, ok⟩ (hc l) ⟨cb, ok _ h5⟩ ⟨zPc_blind, fun U hU hW => ⟨rfl, by rw [hU]; exact hA, zK.call X hS hU hW⟩⟩ rfl hn hL.1 hst (lv_room hro) hd hR.2) hS (fun r ah' sz' H1 locs1 hq hA1 hS1 => ?_)
  exact k r ah' sz' hq p l e s m args below meth c H1 locs1 ls X hA1 hS1 hL
theorem z_callI {M' : zM} {d' mc ms n index b : Nat} {As rest : List Value} {Q : zPost} (hlk : zLI M.1 index M' n) (hc : zC G M' d' mc ms (.ref b :: As) ah sz Q) (hd : decode (zcd M) pc = .ok (.invokespecial index, 3)) (hst : st = As.reverse ++ .ref b :: rest) (hn : As.length = n) (hro : (rest.map fun v => v.category).sum ≤ 8) (hR : zRR R M' d' mc ms cn sn)
    (k : ∀ (r : Option Value) (ah' : zH) (sz' : Nat), Q r ah' sz' → zW G M R F (cn + mc) (sn + ms) (pc + 3) lv (r.toList ++ rest) ah' sz') : zW G M R F cn sn pc lv st ah sz := by
  intro p l e s m args below meth c H locs ls X hA hS hL
  obtain ⟨⟨h1, h2, h3⟩, h4, h5, h6, h7⟩ := hlk
  have ok : ∀ w ∈ lw_gd, w.before args s = true := X.2.2.2.2.2.1
  have hc' := hc l
  rw [h7] at hc' h1
  have hG : GoodIn lw_gd (Cond.code M'.2.1 (zcd M') (zml M') none :: lw_gd) := fun w hw => by
    rcases List.mem_cons.mp hw with rfl | hw
    · exact lw_good _ h1
    · exact lw_good _ hw
  rcases h4 with h4 | ⟨host, h4⟩
  · have cb := callB_of (R := R) (own := M.1) (index := index) (y := M'.2.1) (bytes := zcd M') (maxL := zml M') (ret := none) (rm := zRm d' mc ms) (mc := mc) (ms := ms) n ok hG rfl rfl rfl (ok _ h2) (ok _ h4) h3 hR.1
    refine z_goes (M' := M') (d' := d') (va_runI (As := As) (rest := rest) ⟨X.1, X.2.1, X.2.2.2.1, X.2.2.2.2.1, ok⟩ hc' ⟨cb, h6, ok _ h5⟩ ⟨zPc_blind, fun U hU hW => ⟨rfl, by rw [hU]; exact hA, zK.call X hS hU hW⟩⟩ rfl hn hL.1 hst (lv_room hro) hd hR.2) hS (fun r ah' sz' H1 locs1 hq hA1 hS1 => ?_)
    exact k r ah' sz' hq p l e s m args below meth c H1 locs1 ls X hA1 hS1 hL
  · have cb := va_cnB (R := R) (own := M.1) (host := host) (index := index) (y := M'.2.1) (bytes := zcd M') (maxL := zml M') (ret := none) (rm := zRm d' mc ms) (mc := mc) (ms := ms) n ok hG rfl rfl rfl (zXn X h4 rfl) (ok _ h2) h3 hR.1
    refine z_goes (M' := M') (d' := d') (va_runIN (As := As) (rest := rest) ⟨X.1, X.2.1, X.2.2.2.1, X.2.2.2.2.1, ok⟩ hc' ⟨cb, h6, ok _ h5⟩ ⟨zPc_blind, fun U hU hW => ⟨rfl, by rw [hU]; exact hA, zK.call X hS hU hW⟩⟩ rfl hn hL.1 hst (lv_room hro) hd hR.2) hS (fun r ah' sz' H1 locs1 hq hA1 hS1 => ?_)
    exact k r ah' sz' hq p l e s m args below meth c H1 locs1 ls X hA1 hS1 hL
theorem z_callV1 {M' : zM} {d' n ci index b : Nat} {fs As rest : List Value} {v : Value} {ah' : zH} (hlk : zLV M.1 index M' ci n) (hc : zCe G M' d' (.ref b :: As) ah sz (some v) ah') (hb : ah b = some (.inr (ci, fs))) (hd : decode (zcd M) pc = .ok (.invokevirtual index, 3)) (hst : st = As.reverse ++ .ref b :: rest) (hn : As.length = n) (hro : (rest.map fun v => v.category).sum ≤ 8) (hR : zRR R M' d' 0 0 cn sn)
    (k : zW G M R F cn sn (pc + 3) lv (v :: rest) ah' sz) : zW G M R F cn sn pc lv st ah sz :=
  z_callV hlk hc hb hd hst hn hro hR (fun r a z q => by obtain ⟨rfl, rfl, rfl⟩ := q; exact k)
theorem z_callV0 {M' : zM} {d' n ci index b : Nat} {fs As rest : List Value} {ah' : zH} (hlk : zLV M.1 index M' ci n) (hc : zCe G M' d' (.ref b :: As) ah sz none ah') (hb : ah b = some (.inr (ci, fs))) (hd : decode (zcd M) pc = .ok (.invokevirtual index, 3)) (hst : st = As.reverse ++ .ref b :: rest) (hn : As.length = n) (hro : (rest.map fun v => v.category).sum ≤ 8) (hR : zRR R M' d' 0 0 cn sn)
    (k : zW G M R F cn sn (pc + 3) lv (rest) ah' sz) : zW G M R F cn sn pc lv st ah sz :=
  z_callV hlk hc hb hd hst hn hro hR (fun r a z q => by obtain ⟨rfl, rfl, rfl⟩ := q; exact k)
theorem z_callS1 {M' : zM} {d' n index : Nat} {As rest : List Value} {v : Value} {ah' : zH} (hlk : zLS M.1 index M' n) (hc : zCe G M' d' As ah sz (some v) ah') (hd : decode (zcd M) pc = .ok (.invokestatic index, 3)) (hst : st = As.reverse ++ rest) (hn : As.length = n) (hro : (rest.map fun v => v.category).sum ≤ 8) (hR : zRR R M' d' 0 0 cn sn)
    (k : zW G M R F cn sn (pc + 3) lv (v :: rest) ah' sz) : zW G M R F cn sn pc lv st ah sz :=
  z_callS hlk hc hd hst hn hro hR (fun r a z q => by obtain ⟨rfl, rfl, rfl⟩ := q; exact k)
theorem z_callS0 {M' : zM} {d' n index : Nat} {As rest : List Value} {ah' : zH} (hlk : zLS M.1 index M' n) (hc : zCe G M' d' As ah sz none ah') (hd : decode (zcd M) pc = .ok (.invokestatic index, 3)) (hst : st = As.reverse ++ rest) (hn : As.length = n) (hro : (rest.map fun v => v.category).sum ≤ 8) (hR : zRR R M' d' 0 0 cn sn)
    (k : zW G M R F cn sn (pc + 3) lv (rest) ah' sz) : zW G M R F cn sn pc lv st ah sz :=
  z_callS hlk hc hd hst hn hro hR (fun r a z q => by obtain ⟨rfl, rfl, rfl⟩ := q; exact k)
theorem z_callI0 {M' : zM} {d' n index b : Nat} {As rest : List Value} {ah' : zH} (hlk : zLI M.1 index M' n) (hc : zCe G M' d' (.ref b :: As) ah sz none ah') (hd : decode (zcd M) pc = .ok (.invokespecial index, 3)) (hst : st = As.reverse ++ .ref b :: rest) (hn : As.length = n) (hro : (rest.map fun v => v.category).sum ≤ 8) (hR : zRR R M' d' 0 0 cn sn)
    (k : zW G M R F cn sn (pc + 3) lv (rest) ah' sz) : zW G M R F cn sn pc lv st ah sz :=
  z_callI hlk hc hd hst hn hro hR (fun r a z q => by obtain ⟨rfl, rfl, rfl⟩ := q; exact k)
end ZR
end
section
/-! methods, classes, links (printed by wip/whole/gen/mk03.py) -/
abbrev m_RC_init : zM := (RX9, yX9_init, cX9_init, 2, none)
theorem cm_RC_init : Cond.code yX9_init cX9_init 2 (none) ∈ lw_gd := zgd 75 (by decide +kernel) rfl
abbrev m_State_init : zM := (RX6, yX6_init, cX6_init, 1, none)
theorem cm_State_init : Cond.code yX6_init cX6_init 1 (none) ∈ lw_gd := zgd 83 (by decide +kernel) rfl
abbrev m_Rows_init : zM := (RX5, yX5_init, cX5_init, 2, none)
theorem cm_Rows_init : Cond.code yX5_init cX5_init 2 (none) ∈ lw_gd := zgd 89 (by decide +kernel) rfl
abbrev m_Bits_init : zM := (RX0, yX0_init, cX0_init, 1, none)
theorem cm_Bits_init : Cond.code yX0_init cX0_init 1 (none) ∈ lw_gd := zgd 96 (by decide +kernel) rfl
abbrev m_Pairs_init : zM := (RX2, yX2_init, cX2_init, 2, none)
theorem cm_Pairs_init : Cond.code yX2_init cX2_init 2 (none) ∈ lw_gd := zgd 119 (by decide +kernel) rfl
abbrev m_Reader_init : zM := (RX4, yX4_init, cX4_init, 1, none)
theorem cm_Reader_init : Cond.code yX4_init cX4_init 1 (none) ∈ lw_gd := zgd 170 (by decide +kernel) rfl
abbrev m_Work_init : zM := (RX8, yX8_init, cX8_init, 2, none)
theorem cm_Work_init : Cond.code yX8_init cX8_init 2 (none) ∈ lw_gd := zgd 195 (by decide +kernel) rfl
abbrev m_Groups_init : zM := (RX1, yX1_init, cX1_init, 1, none)
theorem cm_Groups_init : Cond.code yX1_init cX1_init 1 (none) ∈ lw_gd := zgd 218 (by decide +kernel) rfl
abbrev m_Query_init : zM := (RX3, yX3_init, cX3_init, 1, none)
theorem cm_Query_init : Cond.code yX3_init cX3_init 1 (none) ∈ lw_gd := zgd 239 (by decide +kernel) rfl
abbrev m_Tape_init : zM := (RX7, yX7_init, cX7_init, 1, none)
theorem cm_Tape_init : Cond.code yX7_init cX7_init 1 (none) ∈ lw_gd := zgd 266 (by decide +kernel) rfl
abbrev m_RC_add : zM := (RX9, yX9_add, cX9_add, 5, some (FieldType.int))
theorem cm_RC_add : Cond.code yX9_add cX9_add 5 (some (FieldType.int)) ∈ lw_gd := zgd 322 (by decide +kernel) rfl
abbrev m_RC_isValue : zM := (RX9, yX9_isValue, cX9_isValue, 1, some (FieldType.boolean))
theorem cm_RC_isValue : Cond.code yX9_isValue cX9_isValue 1 (some (FieldType.boolean)) ∈ lw_gd := zgd 325 (by decide +kernel) rfl
abbrev m_Rows_isFull : zM := (RX5, yX5_isFull, cX5_isFull, 1, some (FieldType.boolean))
theorem cm_Rows_isFull : Cond.code yX5_isFull cX5_isFull 1 (some (FieldType.boolean)) ∈ lw_gd := zgd 329 (by decide +kernel) rfl
abbrev m_Rows_append : zM := (RX5, yX5_append, cX5_append, 5, none)
theorem cm_Rows_append : Cond.code yX5_append cX5_append 5 (none) ∈ lw_gd := zgd 333 (by decide +kernel) rfl
abbrev m_Rows_putLast : zM := (RX5, yX5_putLast, cX5_putLast, 4, none)
theorem cm_Rows_putLast : Cond.code yX5_putLast cX5_putLast 4 (none) ∈ lw_gd := zgd 337 (by decide +kernel) rfl
abbrev m_Rows_bitsOf : zM := (RX5, yX5_bitsOf, cX5_bitsOf, 3, some ((FieldType.object "RunColumns$Bits")))
theorem cm_Rows_bitsOf : Cond.code yX5_bitsOf cX5_bitsOf 3 (some ((FieldType.object "RunColumns$Bits"))) ∈ lw_gd := zgd 341 (by decide +kernel) rfl
abbrev m_Bits_put : zM := (RX0, yX0_put, cX0_put, 4, none)
theorem cm_Bits_put : Cond.code yX0_put cX0_put 4 (none) ∈ lw_gd := zgd 345 (by decide +kernel) rfl
abbrev m_RC_at : zM := (RX9, yX9_at, cX9_at, 3, some (FieldType.int))
theorem cm_RC_at : Cond.code yX9_at cX9_at 3 (some (FieldType.int)) ∈ lw_gd := zgd 349 (by decide +kernel) rfl
abbrev m_Rows_hasRow : zM := (RX5, yX5_hasRow, cX5_hasRow, 2, some (FieldType.boolean))
theorem cm_Rows_hasRow : Cond.code yX5_hasRow cX5_hasRow 2 (some (FieldType.boolean)) ∈ lw_gd := zgd 353 (by decide +kernel) rfl
abbrev m_RC_isColumn : zM := (RX9, yX9_isColumn, cX9_isColumn, 1, some (FieldType.boolean))
theorem cm_RC_isColumn : Cond.code yX9_isColumn cX9_isColumn 1 (some (FieldType.boolean)) ∈ lw_gd := zgd 356 (by decide +kernel) rfl
abbrev m_Rows_valueOf : zM := (RX5, yX5_valueOf, cX5_valueOf, 5, some (FieldType.int))
theorem cm_Rows_valueOf : Cond.code yX5_valueOf cX5_valueOf 5 (some (FieldType.int)) ∈ lw_gd := zgd 360 (by decide +kernel) rfl
abbrev m_Bits_has : zM := (RX0, yX0_has, cX0_has, 4, some (FieldType.boolean))
theorem cm_Bits_has : Cond.code yX0_has cX0_has 4 (some (FieldType.boolean)) ∈ lw_gd := zgd 364 (by decide +kernel) rfl
abbrev m_RC_mark : zM := (RX9, yX9_mark, cX9_mark, 1, some (FieldType.int))
theorem cm_RC_mark : Cond.code yX9_mark cX9_mark 1 (some (FieldType.int)) ∈ lw_gd := zgd 368 (by decide +kernel) rfl
abbrev m_RC_back : zM := (RX9, yX9_back, cX9_back, 3, some (FieldType.int))
theorem cm_RC_back : Cond.code yX9_back cX9_back 3 (some (FieldType.int)) ∈ lw_gd := zgd 372 (by decide +kernel) rfl
abbrev m_State_hasMark : zM := (RX6, yX6_hasMark, cX6_hasMark, 2, some (FieldType.boolean))
theorem cm_State_hasMark : Cond.code yX6_hasMark cX6_hasMark 2 (some (FieldType.boolean)) ∈ lw_gd := zgd 376 (by decide +kernel) rfl
abbrev m_Rows_cutTo : zM := (RX5, yX5_cutTo, cX5_cutTo, 3, none)
theorem cm_Rows_cutTo : Cond.code yX5_cutTo cX5_cutTo 3 (none) ∈ lw_gd := zgd 380 (by decide +kernel) rfl
abbrev m_Bits_cutTo : zM := (RX0, yX0_cutTo, cX0_cutTo, 2, none)
theorem cm_Bits_cutTo : Cond.code yX0_cutTo cX0_cutTo 2 (none) ∈ lw_gd := zgd 384 (by decide +kernel) rfl
abbrev m_Bits_firstOnes : zM := (RX0, yX0_firstOnes, cX0_firstOnes, 1, some (FieldType.long))
theorem cm_Bits_firstOnes : Cond.code yX0_firstOnes cX0_firstOnes 1 (some (FieldType.long)) ∈ lw_gd := zgd 387 (by decide +kernel) rfl
abbrev m_RC_runs : zM := (RX9, yX9_runs, cX9_runs, 3, some (FieldType.int))
theorem cm_RC_runs : Cond.code yX9_runs cX9_runs 3 (some (FieldType.int)) ∈ lw_gd := zgd 392 (by decide +kernel) rfl
abbrev m_RC_isKind : zM := (RX9, yX9_isKind, cX9_isKind, 1, some (FieldType.boolean))
theorem cm_RC_isKind : Cond.code yX9_isKind cX9_isKind 1 (some (FieldType.boolean)) ∈ lw_gd := zgd 395 (by decide +kernel) rfl
abbrev m_Bits_runsWithin : zM := (RX0, yX0_runsWithin, cX0_runsWithin, 7, some (FieldType.int))
theorem cm_Bits_runsWithin : Cond.code yX0_runsWithin cX0_runsWithin 7 (some (FieldType.int)) ∈ lw_gd := zgd 400 (by decide +kernel) rfl
abbrev m_JLong_bitCount : zM := (RJ13, yJ13_bitCount_95d88, cJ13_bitCount_95d88, 2, some (FieldType.int))
theorem cm_JLong_bitCount : Cond.code yJ13_bitCount_95d88 cJ13_bitCount_95d88 2 (some (FieldType.int)) ∈ lw_gd := zgd 403 (by decide +kernel) rfl
abbrev m_RC_run : zM := (RX9, yX9_run, cX9_run, 8, some (FieldType.int))
theorem cm_RC_run : Cond.code yX9_run cX9_run 8 (some (FieldType.int)) ∈ lw_gd := zgd 410 (by decide +kernel) rfl
abbrev m_Bits_startOfRun : zM := (RX0, yX0_startOfRun, cX0_startOfRun, 5, some (FieldType.int))
theorem cm_Bits_startOfRun : Cond.code yX0_startOfRun cX0_startOfRun 5 (some (FieldType.int)) ∈ lw_gd := zgd 414 (by decide +kernel) rfl
abbrev m_Bits_endOfRun : zM := (RX0, yX0_endOfRun, cX0_endOfRun, 4, some (FieldType.int))
theorem cm_Bits_endOfRun : Cond.code yX0_endOfRun cX0_endOfRun 4 (some (FieldType.int)) ∈ lw_gd := zgd 419 (by decide +kernel) rfl
abbrev m_RC_feed : zM := (RX9, yX9_feed, cX9_feed, 2, some (FieldType.int))
theorem cm_RC_feed : Cond.code yX9_feed cX9_feed 2 (some (FieldType.int)) ∈ lw_gd := zgd 426 (by decide +kernel) rfl
abbrev m_Reader_append : zM := (RX4, yX4_append, cX4_append, 2, none)
theorem cm_Reader_append : Cond.code yX4_append cX4_append 2 (none) ∈ lw_gd := zgd 430 (by decide +kernel) rfl
abbrev m_RC_query : zM := (RX9, yX9_query, cX9_query, 2, some (FieldType.int))
theorem cm_RC_query : Cond.code yX9_query cX9_query 2 (some (FieldType.int)) ∈ lw_gd := zgd 434 (by decide +kernel) rfl
abbrev m_Reader_readInto : zM := (RX4, yX4_readInto, cX4_readInto, 2, some (FieldType.int))
theorem cm_Reader_readInto : Cond.code yX4_readInto cX4_readInto 2 (some (FieldType.int)) ∈ lw_gd := zgd 438 (by decide +kernel) rfl
abbrev m_Reader_readEither : zM := (RX4, yX4_readEither, cX4_readEither, 4, none)
theorem cm_Reader_readEither : Cond.code yX4_readEither cX4_readEither 4 (none) ∈ lw_gd := zgd 442 (by decide +kernel) rfl
abbrev m_Reader_readBoth : zM := (RX4, yX4_readBoth, cX4_readBoth, 4, none)
theorem cm_Reader_readBoth : Cond.code yX4_readBoth cX4_readBoth 4 (none) ∈ lw_gd := zgd 446 (by decide +kernel) rfl
abbrev m_Reader_readFactor : zM := (RX4, yX4_readFactor, cX4_readFactor, 5, none)
theorem cm_Reader_readFactor : Cond.code yX4_readFactor cX4_readFactor 5 (none) ∈ lw_gd := zgd 450 (by decide +kernel) rfl
abbrev m_Reader_isWordAt : zM := (RX4, yX4_isWordAt, cX4_isWordAt, 4, some (FieldType.boolean))
theorem cm_Reader_isWordAt : Cond.code yX4_isWordAt cX4_isWordAt 4 (some (FieldType.boolean)) ∈ lw_gd := zgd 455 (by decide +kernel) rfl
abbrev m_JStr_length : zM := (RJ0, yJ0_length_8abf5, cJ0_length_8abf5, 1, some (FieldType.int))
theorem cm_JStr_length : Cond.code yJ0_length_8abf5 cJ0_length_8abf5 1 (some (FieldType.int)) ∈ lw_gd := zgd 459 (by decide +kernel) rfl
abbrev m_JStr_coder : zM := (RJ0, yJ0_coder_7d493, cJ0_coder_7d493, 1, some (FieldType.byte))
theorem cm_JStr_coder : Cond.code yJ0_coder_7d493 cJ0_coder_7d493 1 (some (FieldType.byte)) ∈ lw_gd := zgd 463 (by decide +kernel) rfl
abbrev m_Reader_signAt : zM := (RX4, yX4_signAt, cX4_signAt, 2, some (FieldType.int))
theorem cm_Reader_signAt : Cond.code yX4_signAt cX4_signAt 2 (some (FieldType.int)) ∈ lw_gd := zgd 469 (by decide +kernel) rfl
abbrev m_JStr_charAt : zM := (RJ0, yJ0_charAt_5068e, cJ0_charAt_5068e, 2, some (FieldType.char))
theorem cm_JStr_charAt : Cond.code yJ0_charAt_5068e cJ0_charAt_5068e 2 (some (FieldType.char)) ∈ lw_gd := zgd 473 (by decide +kernel) rfl
abbrev m_JStr_isLatin1 : zM := (RJ0, yJ0_isLatin1_aae02, cJ0_isLatin1_aae02, 1, some (FieldType.boolean))
theorem cm_JStr_isLatin1 : Cond.code yJ0_isLatin1_aae02 cJ0_isLatin1_aae02 1 (some (FieldType.boolean)) ∈ lw_gd := zgd 477 (by decide +kernel) rfl
abbrev m_JLat_charAt : zM := (RJ1, yJ1_charAt_3b067, cJ1_charAt_3b067, 2, some (FieldType.char))
theorem cm_JLat_charAt : Cond.code yJ1_charAt_3b067 cJ1_charAt_3b067 2 (some (FieldType.char)) ∈ lw_gd := zgd 480 (by decide +kernel) rfl
abbrev m_JStr_checkIndex : zM := (RJ0, yJ0_checkIndex_df160, cJ0_checkIndex_df160, 2, none)
theorem cm_JStr_checkIndex : Cond.code yJ0_checkIndex_df160 cJ0_checkIndex_df160 2 (none) ∈ lw_gd := zgd 483 (by decide +kernel) rfl
abbrev m_JPre_checkIndex : zM := (RJ3, yJ3_checkIndex_8e157, cJ3_checkIndex_8e157, 3, some (FieldType.int))
theorem cm_JPre_checkIndex : Cond.code yJ3_checkIndex_8e157 cJ3_checkIndex_8e157 3 (some (FieldType.int)) ∈ lw_gd := zgd 488 (by decide +kernel) rfl
abbrev m_JU16_charAt : zM := (RJ2, yJ2_charAt_3b067, cJ2_charAt_3b067, 2, some (FieldType.char))
theorem cm_JU16_charAt : Cond.code yJ2_charAt_3b067 cJ2_charAt_3b067 2 (some (FieldType.char)) ∈ lw_gd := zgd 491 (by decide +kernel) rfl
abbrev m_JU16_checkIndex : zM := (RJ2, yJ2_checkIndex_2214a, cJ2_checkIndex_2214a, 2, none)
theorem cm_JU16_checkIndex : Cond.code yJ2_checkIndex_2214a cJ2_checkIndex_2214a 2 (none) ∈ lw_gd := zgd 494 (by decide +kernel) rfl
abbrev m_JU16_length : zM := (RJ2, yJ2_length_9d52b, cJ2_length_9d52b, 1, some (FieldType.int))
theorem cm_JU16_length : Cond.code yJ2_length_9d52b cJ2_length_9d52b 1 (some (FieldType.int)) ∈ lw_gd := zgd 497 (by decide +kernel) rfl
abbrev m_JU16_getChar : zM := (RJ2, yJ2_getChar_3b067, cJ2_getChar_3b067, 2, some (FieldType.char))
theorem cm_JU16_getChar : Cond.code yJ2_getChar_3b067 cJ2_getChar_3b067 2 (some (FieldType.char)) ∈ lw_gd := zgd 501 (by decide +kernel) rfl
abbrev m_Reader_isLetter : zM := (RX4, yX4_isLetter, cX4_isLetter, 1, some (FieldType.boolean))
theorem cm_Reader_isLetter : Cond.code yX4_isLetter cX4_isLetter 1 (some (FieldType.boolean)) ∈ lw_gd := zgd 510 (by decide +kernel) rfl
abbrev m_Reader_blame : zM := (RX4, yX4_blame, cX4_blame, 2, none)
theorem cm_Reader_blame : Cond.code yX4_blame cX4_blame 2 (none) ∈ lw_gd := zgd 514 (by decide +kernel) rfl
abbrev m_Reader_passWord : zM := (RX4, yX4_passWord, cX4_passWord, 2, none)
theorem cm_Reader_passWord : Cond.code yX4_passWord cX4_passWord 2 (none) ∈ lw_gd := zgd 518 (by decide +kernel) rfl
abbrev m_Reader_pass : zM := (RX4, yX4_pass, cX4_pass, 2, none)
theorem cm_Reader_pass : Cond.code yX4_pass cX4_pass 2 (none) ∈ lw_gd := zgd 522 (by decide +kernel) rfl
abbrev m_Query_appendJoin : zM := (RX3, yX3_appendJoin, cX3_appendJoin, 2, none)
theorem cm_Query_appendJoin : Cond.code yX3_appendJoin cX3_appendJoin 2 (none) ∈ lw_gd := zgd 526 (by decide +kernel) rfl
abbrev m_Query_appendLeaf : zM := (RX3, yX3_appendLeaf, cX3_appendLeaf, 5, none)
theorem cm_Query_appendLeaf : Cond.code yX3_appendLeaf cX3_appendLeaf 5 (none) ∈ lw_gd := zgd 530 (by decide +kernel) rfl
abbrev m_Reader_passClosing : zM := (RX4, yX4_passClosing, cX4_passClosing, 1, none)
theorem cm_Reader_passClosing : Cond.code yX4_passClosing cX4_passClosing 1 (none) ∈ lw_gd := zgd 534 (by decide +kernel) rfl
abbrev m_Reader_blameWhatFollows : zM := (RX4, yX4_blameWhatFollows, cX4_blameWhatFollows, 1, none)
theorem cm_Reader_blameWhatFollows : Cond.code yX4_blameWhatFollows cX4_blameWhatFollows 1 (none) ∈ lw_gd := zgd 538 (by decide +kernel) rfl
abbrev m_Reader_readQuestion : zM := (RX4, yX4_readQuestion, cX4_readQuestion, 5, none)
theorem cm_Reader_readQuestion : Cond.code yX4_readQuestion cX4_readQuestion 5 (none) ∈ lw_gd := zgd 544 (by decide +kernel) rfl
abbrev m_Reader_passColumn : zM := (RX4, yX4_passColumn, cX4_passColumn, 2, some (FieldType.int))
theorem cm_Reader_passColumn : Cond.code yX4_passColumn cX4_passColumn 2 (some (FieldType.int)) ∈ lw_gd := zgd 548 (by decide +kernel) rfl
abbrev m_Reader_passSort : zM := (RX4, yX4_passSort, cX4_passSort, 1, some (FieldType.int))
theorem cm_Reader_passSort : Cond.code yX4_passSort cX4_passSort 1 (some (FieldType.int)) ∈ lw_gd := zgd 552 (by decide +kernel) rfl
abbrev m_Reader_passValue : zM := (RX4, yX4_passValue, cX4_passValue, 2, some (FieldType.int))
theorem cm_Reader_passValue : Cond.code yX4_passValue cX4_passValue 2 (some (FieldType.int)) ∈ lw_gd := zgd 559 (by decide +kernel) rfl
abbrev m_Reader_isDigit : zM := (RX4, yX4_isDigit, cX4_isDigit, 1, some (FieldType.boolean))
theorem cm_Reader_isDigit : Cond.code yX4_isDigit cX4_isDigit 1 (some (FieldType.boolean)) ∈ lw_gd := zgd 562 (by decide +kernel) rfl
abbrev m_Reader_isJoinedBy : zM := (RX4, yX4_isJoinedBy, cX4_isJoinedBy, 2, some (FieldType.boolean))
theorem cm_Reader_isJoinedBy : Cond.code yX4_isJoinedBy cX4_isJoinedBy 2 (some (FieldType.boolean)) ∈ lw_gd := zgd 567 (by decide +kernel) rfl
abbrev m_Reader_passJoin : zM := (RX4, yX4_passJoin, cX4_passJoin, 2, none)
theorem cm_Reader_passJoin : Cond.code yX4_passJoin cX4_passJoin 2 (none) ∈ lw_gd := zgd 571 (by decide +kernel) rfl
abbrev m_RC_of : zM := (RX9, yX9_of, cX9_of, 5, some (FieldType.int))
theorem cm_RC_of : Cond.code yX9_of cX9_of 5 (some (FieldType.int)) ∈ lw_gd := zgd 576 (by decide +kernel) rfl
abbrev m_RC_isQuery : zM := (RX9, yX9_isQuery, cX9_isQuery, 2, some (FieldType.boolean))
theorem cm_RC_isQuery : Cond.code yX9_isQuery cX9_isQuery 2 (some (FieldType.boolean)) ∈ lw_gd := zgd 580 (by decide +kernel) rfl
abbrev m_Work_goThrough : zM := (RX8, yX8_goThrough, cX8_goThrough, 5, none)
theorem cm_Work_goThrough : Cond.code yX8_goThrough cX8_goThrough 5 (none) ∈ lw_gd := zgd 584 (by decide +kernel) rfl
abbrev m_Work_turn : zM := (RX8, yX8_turn, cX8_turn, 2, none)
theorem cm_Work_turn : Cond.code yX8_turn cX8_turn 2 (none) ∈ lw_gd := zgd 588 (by decide +kernel) rfl
abbrev m_Bits_turn : zM := (RX0, yX0_turn, cX0_turn, 2, none)
theorem cm_Bits_turn : Cond.code yX0_turn cX0_turn 2 (none) ∈ lw_gd := zgd 592 (by decide +kernel) rfl
abbrev m_Work_join : zM := (RX8, yX8_join, cX8_join, 5, none)
theorem cm_Work_join : Cond.code yX8_join cX8_join 5 (none) ∈ lw_gd := zgd 597 (by decide +kernel) rfl
abbrev m_JMath_max : zM := (RJ9, yJ9_max_7cf53, cJ9_max_7cf53, 2, some (FieldType.int))
theorem cm_JMath_max : Cond.code yJ9_max_7cf53 cJ9_max_7cf53 2 (some (FieldType.int)) ∈ lw_gd := zgd 601 (by decide +kernel) rfl
abbrev m_Bits_keepThoseOf : zM := (RX0, yX0_keepThoseOf, cX0_keepThoseOf, 2, none)
theorem cm_Bits_keepThoseOf : Cond.code yX0_keepThoseOf cX0_keepThoseOf 2 (none) ∈ lw_gd := zgd 605 (by decide +kernel) rfl
abbrev m_Bits_takeThoseOf : zM := (RX0, yX0_takeThoseOf, cX0_takeThoseOf, 2, none)
theorem cm_Bits_takeThoseOf : Cond.code yX0_takeThoseOf cX0_takeThoseOf 2 (none) ∈ lw_gd := zgd 609 (by decide +kernel) rfl
abbrev m_Work_ask : zM := (RX8, yX8_ask, cX8_ask, 7, none)
theorem cm_Work_ask : Cond.code yX8_ask cX8_ask 7 (none) ∈ lw_gd := zgd 613 (by decide +kernel) rfl
abbrev m_Bits_becomeOnes : zM := (RX0, yX0_becomeOnes, cX0_becomeOnes, 2, none)
theorem cm_Bits_becomeOnes : Cond.code yX0_becomeOnes cX0_becomeOnes 2 (none) ∈ lw_gd := zgd 617 (by decide +kernel) rfl
abbrev m_Bits_becomeZeros : zM := (RX0, yX0_becomeZeros, cX0_becomeZeros, 1, none)
theorem cm_Bits_becomeZeros : Cond.code yX0_becomeZeros cX0_becomeZeros 1 (none) ∈ lw_gd := zgd 621 (by decide +kernel) rfl
abbrev m_Rows_runsOfSlices : zM := (RX5, yX5_runsOfSlices, cX5_runsOfSlices, 4, some (FieldType.int))
theorem cm_Rows_runsOfSlices : Cond.code yX5_runsOfSlices cX5_runsOfSlices 4 (some (FieldType.int)) ∈ lw_gd := zgd 627 (by decide +kernel) rfl
abbrev m_Work_result : zM := (RX8, yX8_result, cX8_result, 1, some ((FieldType.object "RunColumns$Bits")))
theorem cm_Work_result : Cond.code yX8_result cX8_result 1 (some ((FieldType.object "RunColumns$Bits"))) ∈ lw_gd := zgd 632 (by decide +kernel) rfl
abbrev m_Bits_ones : zM := (RX0, yX0_ones, cX0_ones, 1, some (FieldType.int))
theorem cm_Bits_ones : Cond.code yX0_ones cX0_ones 1 (some (FieldType.int)) ∈ lw_gd := zgd 636 (by decide +kernel) rfl
abbrev m_Work_cost : zM := (RX8, yX8_cost, cX8_cost, 1, some (FieldType.int))
theorem cm_Work_cost : Cond.code yX8_cost cX8_cost 1 (some (FieldType.int)) ∈ lw_gd := zgd 640 (by decide +kernel) rfl
abbrev m_Bits_placeOfOne : zM := (RX0, yX0_placeOfOne, cX0_placeOfOne, 5, some (FieldType.int))
theorem cm_Bits_placeOfOne : Cond.code yX0_placeOfOne cX0_placeOfOne 5 (some (FieldType.int)) ∈ lw_gd := zgd 644 (by decide +kernel) rfl
abbrev m_Query_stepsBetween : zM := (RX3, yX3_stepsBetween, cX3_stepsBetween, 5, some (FieldType.int))
theorem cm_Query_stepsBetween : Cond.code yX3_stepsBetween cX3_stepsBetween 5 (some (FieldType.int)) ∈ lw_gd := zgd 648 (by decide +kernel) rfl
abbrev m_Work_depth : zM := (RX8, yX8_depth, cX8_depth, 1, some (FieldType.int))
theorem cm_Work_depth : Cond.code yX8_depth cX8_depth 1 (some (FieldType.int)) ∈ lw_gd := zgd 652 (by decide +kernel) rfl
abbrev m_RC_row : zM := (RX9, yX9_row, cX9_row, 3, some (FieldType.int))
theorem cm_RC_row : Cond.code yX9_row cX9_row 3 (some (FieldType.int)) ∈ lw_gd := zgd 656 (by decide +kernel) rfl
abbrev m_RC_resultOf : zM := (RX9, yX9_resultOf, cX9_resultOf, 2, some ((FieldType.object "RunColumns$Bits")))
theorem cm_RC_resultOf : Cond.code yX9_resultOf cX9_resultOf 2 (some ((FieldType.object "RunColumns$Bits"))) ∈ lw_gd := zgd 660 (by decide +kernel) rfl
abbrev m_RC_group : zM := (RX9, yX9_group, cX9_group, 4, some (FieldType.int))
theorem cm_RC_group : Cond.code yX9_group cX9_group 4 (some (FieldType.int)) ∈ lw_gd := zgd 664 (by decide +kernel) rfl
abbrev m_Groups_fill : zM := (RX1, yX1_fill, cX1_fill, 5, none)
theorem cm_Groups_fill : Cond.code yX1_fill cX1_fill 5 (none) ∈ lw_gd := zgd 668 (by decide +kernel) rfl
abbrev m_Bits_become : zM := (RX0, yX0_become, cX0_become, 2, none)
theorem cm_Bits_become : Cond.code yX0_become cX0_become 2 (none) ∈ lw_gd := zgd 672 (by decide +kernel) rfl
abbrev m_RC_edge : zM := (RX9, yX9_edge, cX9_edge, 4, some (FieldType.int))
theorem cm_RC_edge : Cond.code yX9_edge cX9_edge 4 (some (FieldType.int)) ∈ lw_gd := zgd 679 (by decide +kernel) rfl
abbrev m_Groups_least : zM := (RX1, yX1_least, cX1_least, 2, some (FieldType.int))
theorem cm_Groups_least : Cond.code yX1_least cX1_least 2 (some (FieldType.int)) ∈ lw_gd := zgd 683 (by decide +kernel) rfl
abbrev m_Groups_greatest : zM := (RX1, yX1_greatest, cX1_greatest, 2, some (FieldType.int))
theorem cm_Groups_greatest : Cond.code yX1_greatest cX1_greatest 2 (some (FieldType.int)) ∈ lw_gd := zgd 687 (by decide +kernel) rfl
abbrev m_Groups_middle : zM := (RX1, yX1_middle, cX1_middle, 3, some (FieldType.int))
theorem cm_Groups_middle : Cond.code yX1_middle cX1_middle 3 (some (FieldType.int)) ∈ lw_gd := zgd 691 (by decide +kernel) rfl
abbrev m_Groups_unlike : zM := (RX1, yX1_unlike, cX1_unlike, 3, some (FieldType.int))
theorem cm_Groups_unlike : Cond.code yX1_unlike cX1_unlike 3 (some (FieldType.int)) ∈ lw_gd := zgd 695 (by decide +kernel) rfl
abbrev m_Groups_greatestGroup : zM := (RX1, yX1_greatestGroup, cX1_greatestGroup, 4, some (FieldType.int))
theorem cm_Groups_greatestGroup : Cond.code yX1_greatestGroup cX1_greatestGroup 4 (some (FieldType.int)) ∈ lw_gd := zgd 699 (by decide +kernel) rfl
abbrev m_RC_two : zM := (RX9, yX9_two, cX9_two, 9, some (FieldType.int))
theorem cm_RC_two : Cond.code yX9_two cX9_two 9 (some (FieldType.int)) ∈ lw_gd := zgd 703 (by decide +kernel) rfl
abbrev m_RC_see : zM := (RX9, yX9_see, cX9_see, 3, some (FieldType.int))
theorem cm_RC_see : Cond.code yX9_see cX9_see 3 (some (FieldType.int)) ∈ lw_gd := zgd 709 (by decide +kernel) rfl
abbrev m_Pairs_append : zM := (RX2, yX2_append, cX2_append, 3, some (FieldType.int))
theorem cm_Pairs_append : Cond.code yX2_append cX2_append 3 (some (FieldType.int)) ∈ lw_gd := zgd 713 (by decide +kernel) rfl
abbrev m_RC_bounds : zM := (RX9, yX9_bounds, cX9_bounds, 6, some (FieldType.int))
theorem cm_RC_bounds : Cond.code yX9_bounds cX9_bounds 6 (some (FieldType.int)) ∈ lw_gd := zgd 717 (by decide +kernel) rfl
abbrev m_State_isSeenBelow : zM := (RX6, yX6_isSeenBelow, cX6_isSeenBelow, 6, some (FieldType.boolean))
theorem cm_State_isSeenBelow : Cond.code yX6_isSeenBelow cX6_isSeenBelow 6 (some (FieldType.boolean)) ∈ lw_gd := zgd 721 (by decide +kernel) rfl
abbrev m_RC_odds : zM := (RX9, yX9_odds, cX9_odds, 3, some (FieldType.long))
theorem cm_RC_odds : Cond.code yX9_odds cX9_odds 3 (some (FieldType.long)) ∈ lw_gd := zgd 727 (by decide +kernel) rfl
abbrev m_RC_isPart : zM := (RX9, yX9_isPart, cX9_isPart, 1, some (FieldType.boolean))
theorem cm_RC_isPart : Cond.code yX9_isPart cX9_isPart 1 (some (FieldType.boolean)) ∈ lw_gd := zgd 730 (by decide +kernel) rfl
abbrev m_RC_inLowestTerms : zM := (RX9, yX9_inLowestTerms, cX9_inLowestTerms, 4, some (FieldType.long))
theorem cm_RC_inLowestTerms : Cond.code yX9_inLowestTerms cX9_inLowestTerms 4 (some (FieldType.long)) ∈ lw_gd := zgd 734 (by decide +kernel) rfl
abbrev m_RC_greatestDivisor : zM := (RX9, yX9_greatestDivisor, cX9_greatestDivisor, 6, some (FieldType.int))
theorem cm_RC_greatestDivisor : Cond.code yX9_greatestDivisor cX9_greatestDivisor 6 (some (FieldType.int)) ∈ lw_gd := zgd 737 (by decide +kernel) rfl
abbrev m_RC_mean : zM := (RX9, yX9_mean, cX9_mean, 4, some (FieldType.long))
theorem cm_RC_mean : Cond.code yX9_mean cX9_mean 4 (some (FieldType.long)) ∈ lw_gd := zgd 741 (by decide +kernel) rfl
abbrev m_Groups_sum : zM := (RX1, yX1_sum, cX1_sum, 3, some (FieldType.int))
theorem cm_Groups_sum : Cond.code yX1_sum cX1_sum 3 (some (FieldType.int)) ∈ lw_gd := zgd 745 (by decide +kernel) rfl
abbrev m_RC_plan : zM := (RX9, yX9_plan, cX9_plan, 3, some (FieldType.int))
theorem cm_RC_plan : Cond.code yX9_plan cX9_plan 3 (some (FieldType.int)) ∈ lw_gd := zgd 749 (by decide +kernel) rfl
abbrev m_RC_ends : zM := (RX9, yX9_ends, cX9_ends, 4, some (FieldType.int))
theorem cm_RC_ends : Cond.code yX9_ends cX9_ends 4 (some (FieldType.int)) ∈ lw_gd := zgd 753 (by decide +kernel) rfl
abbrev m_State_tryPlan : zM := (RX6, yX6_tryPlan, cX6_tryPlan, 3, none)
theorem cm_State_tryPlan : Cond.code yX6_tryPlan cX6_tryPlan 3 (none) ∈ lw_gd := zgd 757 (by decide +kernel) rfl
abbrev m_Rows_become : zM := (RX5, yX5_become, cX5_become, 3, none)
theorem cm_Rows_become : Cond.code yX5_become cX5_become 3 (none) ∈ lw_gd := zgd 761 (by decide +kernel) rfl
abbrev m_State_tryStep : zM := (RX6, yX6_tryStep, cX6_tryStep, 4, none)
theorem cm_State_tryStep : Cond.code yX6_tryStep cX6_tryStep 4 (none) ∈ lw_gd := zgd 766 (by decide +kernel) rfl
abbrev m_Rows_appendLike : zM := (RX5, yX5_appendLike, cX5_appendLike, 2, none)
theorem cm_Rows_appendLike : Cond.code yX5_appendLike cX5_appendLike 2 (none) ∈ lw_gd := zgd 772 (by decide +kernel) rfl
abbrev m_RC_book : zM := (RX9, yX9_book, cX9_book, 3, some (FieldType.int))
theorem cm_RC_book : Cond.code yX9_book cX9_book 3 (some (FieldType.int)) ∈ lw_gd := zgd 779 (by decide +kernel) rfl
abbrev m_RC_looked : zM := (RX9, yX9_looked, cX9_looked, 3, some (FieldType.int))
theorem cm_RC_looked : Cond.code yX9_looked cX9_looked 3 (some (FieldType.int)) ∈ lw_gd := zgd 783 (by decide +kernel) rfl
abbrev m_RC_judge : zM := (RX9, yX9_judge, cX9_judge, 7, some (FieldType.int))
theorem cm_RC_judge : Cond.code yX9_judge cX9_judge 7 (some (FieldType.int)) ∈ lw_gd := zgd 787 (by decide +kernel) rfl
abbrev m_RC_isTape : zM := (RX9, yX9_isTape, cX9_isTape, 1, some (FieldType.boolean))
theorem cm_RC_isTape : Cond.code yX9_isTape cX9_isTape 1 (some (FieldType.boolean)) ∈ lw_gd := zgd 790 (by decide +kernel) rfl
abbrev m_Tape_isNothing : zM := (RX7, yX7_isNothing, cX7_isNothing, 1, some (FieldType.boolean))
theorem cm_Tape_isNothing : Cond.code yX7_isNothing cX7_isNothing 1 (some (FieldType.boolean)) ∈ lw_gd := zgd 794 (by decide +kernel) rfl
abbrev m_RC_image : zM := (RX9, yX9_image, cX9_image, 1, some (FieldType.int))
theorem cm_RC_image : Cond.code yX9_image cX9_image 1 (some (FieldType.int)) ∈ lw_gd := zgd 798 (by decide +kernel) rfl
abbrev m_State_become : zM := (RX6, yX6_become, cX6_become, 2, none)
theorem cm_State_become : Cond.code yX6_become cX6_become 2 (none) ∈ lw_gd := zgd 802 (by decide +kernel) rfl
abbrev m_Pairs_become : zM := (RX2, yX2_become, cX2_become, 2, none)
theorem cm_Pairs_become : Cond.code yX2_become cX2_become 2 (none) ∈ lw_gd := zgd 809 (by decide +kernel) rfl
abbrev m_RC_undo : zM := (RX9, yX9_undo, cX9_undo, 1, some (FieldType.int))
theorem cm_RC_undo : Cond.code yX9_undo cX9_undo 1 (some (FieldType.int)) ∈ lw_gd := zgd 814 (by decide +kernel) rfl
abbrev m_RC_taken : zM := (RX9, yX9_taken, cX9_taken, 3, some (FieldType.int))
theorem cm_RC_taken : Cond.code yX9_taken cX9_taken 3 (some (FieldType.int)) ∈ lw_gd := zgd 818 (by decide +kernel) rfl
abbrev m_Query_lastSort : zM := (RX3, yX3_lastSort, cX3_lastSort, 1, some (FieldType.int))
theorem cm_Query_lastSort : Cond.code yX3_lastSort cX3_lastSort 1 (some (FieldType.int)) ∈ lw_gd := zgd 822 (by decide +kernel) rfl
abbrev m_RC_count : zM := (RX9, yX9_count, cX9_count, 2, some (FieldType.int))
theorem cm_RC_count : Cond.code yX9_count cX9_count 2 (some (FieldType.int)) ∈ lw_gd := zgd 826 (by decide +kernel) rfl
abbrev m_RC_tape : zM := (RX9, yX9_tape, cX9_tape, 4, some (FieldType.int))
theorem cm_RC_tape : Cond.code yX9_tape cX9_tape 4 (some (FieldType.int)) ∈ lw_gd := zgd 830 (by decide +kernel) rfl
abbrev m_Tape_become : zM := (RX7, yX7_become, cX7_become, 3, none)
theorem cm_Tape_become : Cond.code yX7_become cX7_become 3 (none) ∈ lw_gd := zgd 834 (by decide +kernel) rfl
abbrev m_JArr_fill : zM := (RJ7, yJ7_fill_d0a16, cJ7_fill_d0a16, 5, none)
theorem cm_JArr_fill : Cond.code yJ7_fill_d0a16 cJ7_fill_d0a16 5 (none) ∈ lw_gd := zgd 837 (by decide +kernel) rfl
abbrev m_RC_item : zM := (RX9, yX9_item, cX9_item, 5, some (FieldType.int))
theorem cm_RC_item : Cond.code yX9_item cX9_item 5 (some (FieldType.int)) ∈ lw_gd := zgd 841 (by decide +kernel) rfl
abbrev m_Tape_hasItem : zM := (RX7, yX7_hasItem, cX7_hasItem, 2, some (FieldType.boolean))
theorem cm_Tape_hasItem : Cond.code yX7_hasItem cX7_hasItem 2 (some (FieldType.boolean)) ∈ lw_gd := zgd 845 (by decide +kernel) rfl
abbrev m_Tape_put : zM := (RX7, yX7_put, cX7_put, 4, none)
theorem cm_Tape_put : Cond.code yX7_put cX7_put 4 (none) ∈ lw_gd := zgd 849 (by decide +kernel) rfl
abbrev m_RC_read : zM := (RX9, yX9_read, cX9_read, 3, some (FieldType.long))
theorem cm_RC_read : Cond.code yX9_read cX9_read 3 (some (FieldType.long)) ∈ lw_gd := zgd 853 (by decide +kernel) rfl
abbrev m_RC_shift : zM := (RX9, yX9_shift, cX9_shift, 8, some (FieldType.int))
theorem cm_RC_shift : Cond.code yX9_shift cX9_shift 8 (some (FieldType.int)) ∈ lw_gd := zgd 857 (by decide +kernel) rfl
abbrev m_Tape_hasStretch : zM := (RX7, yX7_hasStretch, cX7_hasStretch, 3, some (FieldType.boolean))
theorem cm_Tape_hasStretch : Cond.code yX7_hasStretch cX7_hasStretch 3 (some (FieldType.boolean)) ∈ lw_gd := zgd 861 (by decide +kernel) rfl
abbrev m_Mo_init : zM := (RX10, yX10_init, cX10_init, 2, none)
theorem cm_Mo_init : Cond.code yX10_init cX10_init 2 (none) ∈ lw_gd := zgd 867 (by decide +kernel) rfl
abbrev m_Mo_add : zM := (RX10, yX10_add, cX10_add, 5, some (FieldType.int))
theorem cm_Mo_add : Cond.code yX10_add cX10_add 5 (some (FieldType.int)) ∈ lw_gd := zgd 944 (by decide +kernel) rfl
abbrev m_Mo_in : zM := (RX10, yX10_in, cX10_in, 3, some (FieldType.boolean))
theorem cm_Mo_in : Cond.code yX10_in cX10_in 3 (some (FieldType.boolean)) ∈ lw_gd := zgd 947 (by decide +kernel) rfl
abbrev m_Mo_comes : zM := (RX10, yX10_comes, cX10_comes, 6, some (FieldType.int))
theorem cm_Mo_comes : Cond.code yX10_comes cX10_comes 6 (some (FieldType.int)) ∈ lw_gd := zgd 951 (by decide +kernel) rfl
abbrev m_Mo_at : zM := (RX10, yX10_at, cX10_at, 3, some (FieldType.int))
theorem cm_Mo_at : Cond.code yX10_at cX10_at 3 (some (FieldType.int)) ∈ lw_gd := zgd 955 (by decide +kernel) rfl
abbrev m_Mo_isRow : zM := (RX10, yX10_isRow, cX10_isRow, 2, some (FieldType.boolean))
theorem cm_Mo_isRow : Cond.code yX10_isRow cX10_isRow 2 (some (FieldType.boolean)) ∈ lw_gd := zgd 959 (by decide +kernel) rfl
abbrev m_Mo_mark : zM := (RX10, yX10_mark, cX10_mark, 1, some (FieldType.int))
theorem cm_Mo_mark : Cond.code yX10_mark cX10_mark 1 (some (FieldType.int)) ∈ lw_gd := zgd 963 (by decide +kernel) rfl
abbrev m_Mo_back : zM := (RX10, yX10_back, cX10_back, 3, some (FieldType.int))
theorem cm_Mo_back : Cond.code yX10_back cX10_back 3 (some (FieldType.int)) ∈ lw_gd := zgd 967 (by decide +kernel) rfl
abbrev m_Mo_runs : zM := (RX10, yX10_runs, cX10_runs, 3, some (FieldType.int))
theorem cm_Mo_runs : Cond.code yX10_runs cX10_runs 3 (some (FieldType.int)) ∈ lw_gd := zgd 971 (by decide +kernel) rfl
abbrev m_Mo_runsOf : zM := (RX10, yX10_runsOf, cX10_runsOf, 5, some (FieldType.int))
theorem cm_Mo_runsOf : Cond.code yX10_runsOf cX10_runsOf 5 (some (FieldType.int)) ∈ lw_gd := zgd 975 (by decide +kernel) rfl
abbrev m_Mo_bit : zM := (RX10, yX10_bit, cX10_bit, 5, some (FieldType.boolean))
theorem cm_Mo_bit : Cond.code yX10_bit cX10_bit 5 (some (FieldType.boolean)) ∈ lw_gd := zgd 979 (by decide +kernel) rfl
abbrev m_Mo_run : zM := (RX10, yX10_run, cX10_run, 7, some (FieldType.int))
theorem cm_Mo_run : Cond.code yX10_run cX10_run 7 (some (FieldType.int)) ∈ lw_gd := zgd 983 (by decide +kernel) rfl
abbrev m_Mo_isOnes : zM := (RX10, yX10_isOnes, cX10_isOnes, 4, some (FieldType.boolean))
theorem cm_Mo_isOnes : Cond.code yX10_isOnes cX10_isOnes 4 (some (FieldType.boolean)) ∈ lw_gd := zgd 987 (by decide +kernel) rfl
abbrev m_Mo_feed : zM := (RX10, yX10_feed, cX10_feed, 2, some (FieldType.int))
theorem cm_Mo_feed : Cond.code yX10_feed cX10_feed 2 (some (FieldType.int)) ∈ lw_gd := zgd 991 (by decide +kernel) rfl
abbrev m_Mo_query : zM := (RX10, yX10_query, cX10_query, 2, some (FieldType.int))
theorem cm_Mo_query : Cond.code yX10_query cX10_query 2 (some (FieldType.int)) ∈ lw_gd := zgd 995 (by decide +kernel) rfl
abbrev m_Mo_either : zM := (RX10, yX10_either, cX10_either, 4, some (FieldType.int))
theorem cm_Mo_either : Cond.code yX10_either cX10_either 4 (some (FieldType.int)) ∈ lw_gd := zgd 999 (by decide +kernel) rfl
abbrev m_Mo_both : zM := (RX10, yX10_both, cX10_both, 4, some (FieldType.int))
theorem cm_Mo_both : Cond.code yX10_both cX10_both 4 (some (FieldType.int)) ∈ lw_gd := zgd 1003 (by decide +kernel) rfl
abbrev m_Mo_factor : zM := (RX10, yX10_factor, cX10_factor, 4, some (FieldType.int))
theorem cm_Mo_factor : Cond.code yX10_factor cX10_factor 4 (some (FieldType.int)) ∈ lw_gd := zgd 1007 (by decide +kernel) rfl
abbrev m_Mo_signAt : zM := (RX10, yX10_signAt, cX10_signAt, 2, some (FieldType.int))
theorem cm_Mo_signAt : Cond.code yX10_signAt cX10_signAt 2 (some (FieldType.int)) ∈ lw_gd := zgd 1011 (by decide +kernel) rfl
abbrev m_Mo_wrong : zM := (RX10, yX10_wrong, cX10_wrong, 2, none)
theorem cm_Mo_wrong : Cond.code yX10_wrong cX10_wrong 2 (none) ∈ lw_gd := zgd 1015 (by decide +kernel) rfl
abbrev m_Mo_must : zM := (RX10, yX10_must, cX10_must, 2, none)
theorem cm_Mo_must : Cond.code yX10_must cX10_must 2 (none) ∈ lw_gd := zgd 1019 (by decide +kernel) rfl
abbrev m_Mo_word : zM := (RX10, yX10_word, cX10_word, 3, some (FieldType.int))
theorem cm_Mo_word : Cond.code yX10_word cX10_word 3 (some (FieldType.int)) ∈ lw_gd := zgd 1023 (by decide +kernel) rfl
abbrev m_Mo_wordEnd : zM := (RX10, yX10_wordEnd, cX10_wordEnd, 2, some (FieldType.int))
theorem cm_Mo_wordEnd : Cond.code yX10_wordEnd cX10_wordEnd 2 (some (FieldType.int)) ∈ lw_gd := zgd 1027 (by decide +kernel) rfl
abbrev m_Mo_node : zM := (RX10, yX10_node, cX10_node, 8, some (FieldType.int))
theorem cm_Mo_node : Cond.code yX10_node cX10_node 8 (some (FieldType.int)) ∈ lw_gd := zgd 1032 (by decide +kernel) rfl
abbrev m_Mo_columnHere : zM := (RX10, yX10_columnHere, cX10_columnHere, 4, some (FieldType.int))
theorem cm_Mo_columnHere : Cond.code yX10_columnHere cX10_columnHere 4 (some (FieldType.int)) ∈ lw_gd := zgd 1036 (by decide +kernel) rfl
abbrev m_Mo_value : zM := (RX10, yX10_value, cX10_value, 3, some (FieldType.int))
theorem cm_Mo_value : Cond.code yX10_value cX10_value 3 (some (FieldType.int)) ∈ lw_gd := zgd 1041 (by decide +kernel) rfl
abbrev m_Mo_follows : zM := (RX10, yX10_follows, cX10_follows, 3, some (FieldType.boolean))
theorem cm_Mo_follows : Cond.code yX10_follows cX10_follows 3 (some (FieldType.boolean)) ∈ lw_gd := zgd 1045 (by decide +kernel) rfl
abbrev m_Mo_of : zM := (RX10, yX10_of, cX10_of, 4, some (FieldType.int))
theorem cm_Mo_of : Cond.code yX10_of cX10_of 4 (some (FieldType.int)) ∈ lw_gd := zgd 1049 (by decide +kernel) rfl
abbrev m_Mo_isQuery : zM := (RX10, yX10_isQuery, cX10_isQuery, 2, some (FieldType.boolean))
theorem cm_Mo_isQuery : Cond.code yX10_isQuery cX10_isQuery 2 (some (FieldType.boolean)) ∈ lw_gd := zgd 1053 (by decide +kernel) rfl
abbrev m_Mo_resultMany : zM := (RX10, yX10_resultMany, cX10_resultMany, 4, some (FieldType.int))
theorem cm_Mo_resultMany : Cond.code yX10_resultMany cX10_resultMany 4 (some (FieldType.int)) ∈ lw_gd := zgd 1057 (by decide +kernel) rfl
abbrev m_Mo_isSo : zM := (RX10, yX10_isSo, cX10_isSo, 4, some (FieldType.boolean))
theorem cm_Mo_isSo : Cond.code yX10_isSo cX10_isSo 4 (some (FieldType.boolean)) ∈ lw_gd := zgd 1061 (by decide +kernel) rfl
abbrev m_Mo_resultRuns : zM := (RX10, yX10_resultRuns, cX10_resultRuns, 4, some (FieldType.int))
theorem cm_Mo_resultRuns : Cond.code yX10_resultRuns cX10_resultRuns 4 (some (FieldType.int)) ∈ lw_gd := zgd 1065 (by decide +kernel) rfl
abbrev m_Mo_cost : zM := (RX10, yX10_cost, cX10_cost, 4, some (FieldType.int))
theorem cm_Mo_cost : Cond.code yX10_cost cX10_cost 4 (some (FieldType.int)) ∈ lw_gd := zgd 1069 (by decide +kernel) rfl
abbrev m_Mo_rowAt : zM := (RX10, yX10_rowAt, cX10_rowAt, 5, some (FieldType.int))
theorem cm_Mo_rowAt : Cond.code yX10_rowAt cX10_rowAt 5 (some (FieldType.int)) ∈ lw_gd := zgd 1073 (by decide +kernel) rfl
abbrev m_Mo_sortsIn : zM := (RX10, yX10_sortsIn, cX10_sortsIn, 5, some (FieldType.int))
theorem cm_Mo_sortsIn : Cond.code yX10_sortsIn cX10_sortsIn 5 (some (FieldType.int)) ∈ lw_gd := zgd 1077 (by decide +kernel) rfl
abbrev m_Mo_deepOf : zM := (RX10, yX10_deepOf, cX10_deepOf, 4, some (FieldType.int))
theorem cm_Mo_deepOf : Cond.code yX10_deepOf cX10_deepOf 4 (some (FieldType.int)) ∈ lw_gd := zgd 1081 (by decide +kernel) rfl
abbrev m_Mo_row : zM := (RX10, yX10_row, cX10_row, 3, some (FieldType.int))
theorem cm_Mo_row : Cond.code yX10_row cX10_row 3 (some (FieldType.int)) ∈ lw_gd := zgd 1085 (by decide +kernel) rfl
abbrev m_Mo_group : zM := (RX10, yX10_group, cX10_group, 4, some (FieldType.int))
theorem cm_Mo_group : Cond.code yX10_group cX10_group 4 (some (FieldType.int)) ∈ lw_gd := zgd 1089 (by decide +kernel) rfl
abbrev m_Mo_grouped : zM := (RX10, yX10_grouped, cX10_grouped, 4, none)
theorem cm_Mo_grouped : Cond.code yX10_grouped cX10_grouped 4 (none) ∈ lw_gd := zgd 1093 (by decide +kernel) rfl
abbrev m_Mo_edge : zM := (RX10, yX10_edge, cX10_edge, 12, some (FieldType.int))
theorem cm_Mo_edge : Cond.code yX10_edge cX10_edge 12 (some (FieldType.int)) ∈ lw_gd := zgd 1097 (by decide +kernel) rfl
abbrev m_Mo_two : zM := (RX10, yX10_two, cX10_two, 10, some (FieldType.int))
theorem cm_Mo_two : Cond.code yX10_two cX10_two 10 (some (FieldType.int)) ∈ lw_gd := zgd 1101 (by decide +kernel) rfl
abbrev m_Mo_see : zM := (RX10, yX10_see, cX10_see, 3, some (FieldType.int))
theorem cm_Mo_see : Cond.code yX10_see cX10_see 3 (some (FieldType.int)) ∈ lw_gd := zgd 1105 (by decide +kernel) rfl
abbrev m_Mo_bounds : zM := (RX10, yX10_bounds, cX10_bounds, 6, some (FieldType.int))
theorem cm_Mo_bounds : Cond.code yX10_bounds cX10_bounds 6 (some (FieldType.int)) ∈ lw_gd := zgd 1109 (by decide +kernel) rfl
abbrev m_Mo_isSeen : zM := (RX10, yX10_isSeen, cX10_isSeen, 5, some (FieldType.boolean))
theorem cm_Mo_isSeen : Cond.code yX10_isSeen cX10_isSeen 5 (some (FieldType.boolean)) ∈ lw_gd := zgd 1113 (by decide +kernel) rfl
abbrev m_Mo_odds : zM := (RX10, yX10_odds, cX10_odds, 3, some (FieldType.long))
theorem cm_Mo_odds : Cond.code yX10_odds cX10_odds 3 (some (FieldType.long)) ∈ lw_gd := zgd 1117 (by decide +kernel) rfl
abbrev m_Mo_part : zM := (RX10, yX10_part, cX10_part, 4, some (FieldType.long))
theorem cm_Mo_part : Cond.code yX10_part cX10_part 4 (some (FieldType.long)) ∈ lw_gd := zgd 1121 (by decide +kernel) rfl
abbrev m_Mo_common : zM := (RX10, yX10_common, cX10_common, 5, some (FieldType.int))
theorem cm_Mo_common : Cond.code yX10_common cX10_common 5 (some (FieldType.int)) ∈ lw_gd := zgd 1124 (by decide +kernel) rfl
abbrev m_Mo_mean : zM := (RX10, yX10_mean, cX10_mean, 7, some (FieldType.long))
theorem cm_Mo_mean : Cond.code yX10_mean cX10_mean 7 (some (FieldType.long)) ∈ lw_gd := zgd 1128 (by decide +kernel) rfl
abbrev m_Mo_plan : zM := (RX10, yX10_plan, cX10_plan, 3, some (FieldType.int))
theorem cm_Mo_plan : Cond.code yX10_plan cX10_plan 3 (some (FieldType.int)) ∈ lw_gd := zgd 1132 (by decide +kernel) rfl
abbrev m_Mo_ends : zM := (RX10, yX10_ends, cX10_ends, 4, some (FieldType.int))
theorem cm_Mo_ends : Cond.code yX10_ends cX10_ends 4 (some (FieldType.int)) ∈ lw_gd := zgd 1136 (by decide +kernel) rfl
abbrev m_Mo_copy : zM := (RX10, yX10_copy, cX10_copy, 3, none)
theorem cm_Mo_copy : Cond.code yX10_copy cX10_copy 3 (none) ∈ lw_gd := zgd 1139 (by decide +kernel) rfl
abbrev m_Mo_does : zM := (RX10, yX10_does, cX10_does, 3, none)
theorem cm_Mo_does : Cond.code yX10_does cX10_does 3 (none) ∈ lw_gd := zgd 1143 (by decide +kernel) rfl
abbrev m_Mo_book : zM := (RX10, yX10_book, cX10_book, 3, some (FieldType.int))
theorem cm_Mo_book : Cond.code yX10_book cX10_book 3 (some (FieldType.int)) ∈ lw_gd := zgd 1147 (by decide +kernel) rfl
abbrev m_Mo_looked : zM := (RX10, yX10_looked, cX10_looked, 2, some (FieldType.int))
theorem cm_Mo_looked : Cond.code yX10_looked cX10_looked 2 (some (FieldType.int)) ∈ lw_gd := zgd 1151 (by decide +kernel) rfl
abbrev m_Mo_judge : zM := (RX10, yX10_judge, cX10_judge, 5, some (FieldType.int))
theorem cm_Mo_judge : Cond.code yX10_judge cX10_judge 5 (some (FieldType.int)) ∈ lw_gd := zgd 1155 (by decide +kernel) rfl
abbrev m_Mo_isTape : zM := (RX10, yX10_isTape, cX10_isTape, 1, some (FieldType.boolean))
theorem cm_Mo_isTape : Cond.code yX10_isTape cX10_isTape 1 (some (FieldType.boolean)) ∈ lw_gd := zgd 1158 (by decide +kernel) rfl
abbrev m_Mo_image : zM := (RX10, yX10_image, cX10_image, 1, some (FieldType.int))
theorem cm_Mo_image : Cond.code yX10_image cX10_image 1 (some (FieldType.int)) ∈ lw_gd := zgd 1162 (by decide +kernel) rfl
abbrev m_Mo_undo : zM := (RX10, yX10_undo, cX10_undo, 1, some (FieldType.int))
theorem cm_Mo_undo : Cond.code yX10_undo cX10_undo 1 (some (FieldType.int)) ∈ lw_gd := zgd 1166 (by decide +kernel) rfl
abbrev m_Mo_taken : zM := (RX10, yX10_taken, cX10_taken, 3, some (FieldType.int))
theorem cm_Mo_taken : Cond.code yX10_taken cX10_taken 3 (some (FieldType.int)) ∈ lw_gd := zgd 1170 (by decide +kernel) rfl
abbrev m_Mo_count : zM := (RX10, yX10_count, cX10_count, 2, some (FieldType.int))
theorem cm_Mo_count : Cond.code yX10_count cX10_count 2 (some (FieldType.int)) ∈ lw_gd := zgd 1174 (by decide +kernel) rfl
abbrev m_Mo_tape : zM := (RX10, yX10_tape, cX10_tape, 5, some (FieldType.int))
theorem cm_Mo_tape : Cond.code yX10_tape cX10_tape 5 (some (FieldType.int)) ∈ lw_gd := zgd 1178 (by decide +kernel) rfl
abbrev m_Mo_item : zM := (RX10, yX10_item, cX10_item, 5, some (FieldType.int))
theorem cm_Mo_item : Cond.code yX10_item cX10_item 5 (some (FieldType.int)) ∈ lw_gd := zgd 1182 (by decide +kernel) rfl
abbrev m_Mo_fit : zM := (RX10, yX10_fit, cX10_fit, 3, some (FieldType.long))
theorem cm_Mo_fit : Cond.code yX10_fit cX10_fit 3 (some (FieldType.long)) ∈ lw_gd := zgd 1185 (by decide +kernel) rfl
abbrev m_Mo_read : zM := (RX10, yX10_read, cX10_read, 3, some (FieldType.long))
theorem cm_Mo_read : Cond.code yX10_read cX10_read 3 (some (FieldType.long)) ∈ lw_gd := zgd 1189 (by decide +kernel) rfl
abbrev m_Mo_shift : zM := (RX10, yX10_shift, cX10_shift, 7, some (FieldType.int))
theorem cm_Mo_shift : Cond.code yX10_shift cX10_shift 7 (some (FieldType.int)) ∈ lw_gd := zgd 1193 (by decide +kernel) rfl
theorem i_La : Cond.initialized RL ∈ lw_gd := zgd 51 (by decide +kernel) rfl
theorem i_RC : Cond.initialized RX9 ∈ lw_gd := zgd 52 (by decide +kernel) rfl
theorem i_State : Cond.initialized RX6 ∈ lw_gd := zgd 53 (by decide +kernel) rfl
theorem i_Rows : Cond.initialized RX5 ∈ lw_gd := zgd 54 (by decide +kernel) rfl
theorem i_Bits : Cond.initialized RX0 ∈ lw_gd := zgd 55 (by decide +kernel) rfl
theorem i_Pairs : Cond.initialized RX2 ∈ lw_gd := zgd 56 (by decide +kernel) rfl
theorem i_Reader : Cond.initialized RX4 ∈ lw_gd := zgd 57 (by decide +kernel) rfl
theorem i_Work : Cond.initialized RX8 ∈ lw_gd := zgd 58 (by decide +kernel) rfl
theorem i_Groups : Cond.initialized RX1 ∈ lw_gd := zgd 59 (by decide +kernel) rfl
theorem i_Query : Cond.initialized RX3 ∈ lw_gd := zgd 60 (by decide +kernel) rfl
theorem i_Tape : Cond.initialized RX7 ∈ lw_gd := zgd 61 (by decide +kernel) rfl
theorem i_Mo : Cond.initialized RX10 ∈ lw_gd := zgd 62 (by decide +kernel) rfl
theorem i_JLong : Cond.initialized RJ13 ∈ lw_gd := zgd 63 (by decide +kernel) rfl
theorem i_JStr : Cond.initialized RJ0 ∈ lw_gd := zgd 64 (by decide +kernel) rfl
theorem i_JLat : Cond.initialized RJ1 ∈ lw_gd := zgd 65 (by decide +kernel) rfl
theorem i_JPre : Cond.initialized RJ3 ∈ lw_gd := zgd 66 (by decide +kernel) rfl
theorem i_JU16 : Cond.initialized RJ2 ∈ lw_gd := zgd 67 (by decide +kernel) rfl
theorem i_JMath : Cond.initialized RJ9 ∈ lw_gd := zgd 68 (by decide +kernel) rfl
theorem i_JSys : Cond.initialized RJ10 ∈ lw_gd := zgd 69 (by decide +kernel) rfl
theorem i_JArr : Cond.initialized RJ7 ∈ lw_gd := zgd 70 (by decide +kernel) rfl
theorem k_Bits : zCl 0 RX0 TX0 tyX0 2 := ⟨rfl, fun w h => List.mem_filter.mpr ⟨(show ∀ w ∈ u_ws RX0 TX0 2, w ∈ lw_tbl by decide +kernel) w h, (List.all_eq_true.mp (show (u_ws RX0 TX0 2).all goodWord = true by decide +kernel) w h)⟩, tyX0_ok, nmX0⟩
theorem k_Groups : zCl 1 RX1 TX1 tyX1 3 := ⟨rfl, fun w h => List.mem_filter.mpr ⟨(show ∀ w ∈ u_ws RX1 TX1 3, w ∈ lw_tbl by decide +kernel) w h, (List.all_eq_true.mp (show (u_ws RX1 TX1 3).all goodWord = true by decide +kernel) w h)⟩, tyX1_ok, nmX1⟩
theorem k_Pairs : zCl 2 RX2 TX2 tyX2 4 := ⟨rfl, fun w h => List.mem_filter.mpr ⟨(show ∀ w ∈ u_ws RX2 TX2 4, w ∈ lw_tbl by decide +kernel) w h, (List.all_eq_true.mp (show (u_ws RX2 TX2 4).all goodWord = true by decide +kernel) w h)⟩, tyX2_ok, nmX2⟩
theorem k_Query : zCl 3 RX3 TX3 tyX3 5 := ⟨rfl, fun w h => List.mem_filter.mpr ⟨(show ∀ w ∈ u_ws RX3 TX3 5, w ∈ lw_tbl by decide +kernel) w h, (List.all_eq_true.mp (show (u_ws RX3 TX3 5).all goodWord = true by decide +kernel) w h)⟩, tyX3_ok, nmX3⟩
theorem k_Reader : zCl 4 RX4 TX4 tyX4 4 := ⟨rfl, fun w h => List.mem_filter.mpr ⟨(show ∀ w ∈ u_ws RX4 TX4 4, w ∈ lw_tbl by decide +kernel) w h, (List.all_eq_true.mp (show (u_ws RX4 TX4 4).all goodWord = true by decide +kernel) w h)⟩, tyX4_ok, nmX4⟩
theorem k_Rows : zCl 5 RX5 TX5 tyX5 2 := ⟨rfl, fun w h => List.mem_filter.mpr ⟨(show ∀ w ∈ u_ws RX5 TX5 2, w ∈ lw_tbl by decide +kernel) w h, (List.all_eq_true.mp (show (u_ws RX5 TX5 2).all goodWord = true by decide +kernel) w h)⟩, tyX5_ok, nmX5⟩
theorem k_State : zCl 6 RX6 TX6 tyX6 6 := ⟨rfl, fun w h => List.mem_filter.mpr ⟨(show ∀ w ∈ u_ws RX6 TX6 6, w ∈ lw_tbl by decide +kernel) w h, (List.all_eq_true.mp (show (u_ws RX6 TX6 6).all goodWord = true by decide +kernel) w h)⟩, tyX6_ok, nmX6⟩
theorem k_Tape : zCl 7 RX7 TX7 tyX7 3 := ⟨rfl, fun w h => List.mem_filter.mpr ⟨(show ∀ w ∈ u_ws RX7 TX7 3, w ∈ lw_tbl by decide +kernel) w h, (List.all_eq_true.mp (show (u_ws RX7 TX7 3).all goodWord = true by decide +kernel) w h)⟩, tyX7_ok, nmX7⟩
theorem k_Work : zCl 8 RX8 TX8 tyX8 4 := ⟨rfl, fun w h => List.mem_filter.mpr ⟨(show ∀ w ∈ u_ws RX8 TX8 4, w ∈ lw_tbl by decide +kernel) w h, (List.all_eq_true.mp (show (u_ws RX8 TX8 4).all goodWord = true by decide +kernel) w h)⟩, tyX8_ok, nmX8⟩
theorem k_RC : zCl 9 RX9 TX9 tyX9 12 := ⟨rfl, fun w h => List.mem_filter.mpr ⟨(show ∀ w ∈ u_ws RX9 TX9 12, w ∈ lw_tbl by decide +kernel) w h, (List.all_eq_true.mp (show (u_ws RX9 TX9 12).all goodWord = true by decide +kernel) w h)⟩, tyX9_ok, nmX9⟩
theorem k_Mo : zCl 10 RX10 TX10 tyX10 23 := ⟨rfl, fun w h => List.mem_filter.mpr ⟨(show ∀ w ∈ u_ws RX10 TX10 23, w ∈ lw_tbl by decide +kernel) w h, (List.all_eq_true.mp (show (u_ws RX10 TX10 23).all goodWord = true by decide +kernel) w h)⟩, tyX10_ok, nmX10⟩
theorem f_Bits_9 : zFl RX0 9 0 0 (.long) false := ⟨RX0, TX0, tyX0, 2, k_Bits, by decide, rfl, rfl, rfl, Or.inl (zgd 98 (by decide +kernel) rfl)⟩
theorem f_Bits_15 : zFl RX0 15 0 1 (.long) false := ⟨RX0, TX0, tyX0, 2, k_Bits, by decide, rfl, rfl, rfl, Or.inl (zgd 99 (by decide +kernel) rfl)⟩
theorem f_Rows_11 : zFl RX5 11 5 0 (.array (.object "RunColumns$Bits")) true := ⟨RX5, TX5, tyX5, 2, k_Rows, by decide, rfl, rfl, rfl, Or.inl (zgd 105 (by decide +kernel) rfl)⟩
theorem F_Rows_11 : zFF RX5 11 5 0 (.array (.object "RunColumns$Bits")) := ⟨RX5, TX5, tyX5, 2, k_Rows, by decide, rfl, rfl, rfl, rfl, zgd 105 (by decide +kernel) rfl⟩
theorem f_Rows_17 : zFl RX5 17 5 1 (.int) false := ⟨RX5, TX5, tyX5, 2, k_Rows, by decide, rfl, rfl, rfl, Or.inl (zgd 106 (by decide +kernel) rfl)⟩
theorem f_RC_96 : zFl RX9 96 5 1 (.int) false := ⟨RX5, TX5, tyX5, 2, k_Rows, by decide, rfl, rfl, rfl, Or.inl (zgd 107 (by decide +kernel) rfl)⟩
theorem f_State_75 : zFl RX6 75 5 1 (.int) false := ⟨RX5, TX5, tyX5, 2, k_Rows, by decide, rfl, rfl, rfl, Or.inl (zgd 108 (by decide +kernel) rfl)⟩
theorem f_Work_50 : zFl RX8 50 5 1 (.int) false := ⟨RX5, TX5, tyX5, 2, k_Rows, by decide, rfl, rfl, rfl, Or.inl (zgd 109 (by decide +kernel) rfl)⟩
theorem f_Pairs_15 : zFl RX2 15 2 0 (.int) true := ⟨RX2, TX2, tyX2, 4, k_Pairs, by decide, rfl, rfl, rfl, Or.inl (zgd 121 (by decide +kernel) rfl)⟩
theorem F_Pairs_15 : zFF RX2 15 2 0 (.int) := ⟨RX2, TX2, tyX2, 4, k_Pairs, by decide, rfl, rfl, rfl, rfl, zgd 121 (by decide +kernel) rfl⟩
theorem f_Pairs_18 : zFl RX2 18 2 1 (.array .int) true := ⟨RX2, TX2, tyX2, 4, k_Pairs, by decide, rfl, rfl, rfl, Or.inl (zgd 122 (by decide +kernel) rfl)⟩
theorem F_Pairs_18 : zFF RX2 18 2 1 (.array .int) := ⟨RX2, TX2, tyX2, 4, k_Pairs, by decide, rfl, rfl, rfl, rfl, zgd 122 (by decide +kernel) rfl⟩
theorem f_State_57 : zFl RX6 57 2 1 (.array .int) true := ⟨RX2, TX2, tyX2, 4, k_Pairs, by decide, rfl, rfl, rfl, Or.inl (zgd 123 (by decide +kernel) rfl)⟩
theorem f_RC_250 : zFl RX9 250 2 1 (.array .int) true := ⟨RX2, TX2, tyX2, 4, k_Pairs, by decide, rfl, rfl, rfl, Or.inl (zgd 124 (by decide +kernel) rfl)⟩
theorem f_Pairs_22 : zFl RX2 22 2 2 (.array .int) true := ⟨RX2, TX2, tyX2, 4, k_Pairs, by decide, rfl, rfl, rfl, Or.inl (zgd 125 (by decide +kernel) rfl)⟩
theorem F_Pairs_22 : zFF RX2 22 2 2 (.array .int) := ⟨RX2, TX2, tyX2, 4, k_Pairs, by decide, rfl, rfl, rfl, rfl, zgd 125 (by decide +kernel) rfl⟩
theorem f_State_68 : zFl RX6 68 2 2 (.array .int) true := ⟨RX2, TX2, tyX2, 4, k_Pairs, by decide, rfl, rfl, rfl, Or.inl (zgd 126 (by decide +kernel) rfl)⟩
theorem f_RC_253 : zFl RX9 253 2 2 (.array .int) true := ⟨RX2, TX2, tyX2, 4, k_Pairs, by decide, rfl, rfl, rfl, Or.inl (zgd 127 (by decide +kernel) rfl)⟩
theorem f_Pairs_9 : zFl RX2 9 2 3 (.int) false := ⟨RX2, TX2, tyX2, 4, k_Pairs, by decide, rfl, rfl, rfl, Or.inl (zgd 128 (by decide +kernel) rfl)⟩
theorem f_State_54 : zFl RX6 54 2 3 (.int) false := ⟨RX2, TX2, tyX2, 4, k_Pairs, by decide, rfl, rfl, rfl, Or.inl (zgd 129 (by decide +kernel) rfl)⟩
theorem f_RC_216 : zFl RX9 216 2 3 (.int) false := ⟨RX2, TX2, tyX2, 4, k_Pairs, by decide, rfl, rfl, rfl, Or.inl (zgd 130 (by decide +kernel) rfl)⟩
theorem f_State_12 : zFl RX6 12 6 0 (.object "RunColumns$Rows") true := ⟨RX6, TX6, tyX6, 6, k_State, by decide, rfl, rfl, rfl, Or.inl (zgd 141 (by decide +kernel) rfl)⟩
theorem F_State_12 : zFF RX6 12 6 0 (.object "RunColumns$Rows") := ⟨RX6, TX6, tyX6, 6, k_State, by decide, rfl, rfl, rfl, rfl, zgd 141 (by decide +kernel) rfl⟩
theorem f_RC_85 : zFl RX9 85 6 0 (.object "RunColumns$Rows") true := ⟨RX6, TX6, tyX6, 6, k_State, by decide, rfl, rfl, rfl, Or.inl (zgd 142 (by decide +kernel) rfl)⟩
theorem f_State_18 : zFl RX6 18 6 1 (.array .int) true := ⟨RX6, TX6, tyX6, 6, k_State, by decide, rfl, rfl, rfl, Or.inl (zgd 143 (by decide +kernel) rfl)⟩
theorem F_State_18 : zFF RX6 18 6 1 (.array .int) := ⟨RX6, TX6, tyX6, 6, k_State, by decide, rfl, rfl, rfl, rfl, zgd 143 (by decide +kernel) rfl⟩
theorem f_RC_112 : zFl RX9 112 6 1 (.array .int) true := ⟨RX6, TX6, tyX6, 6, k_State, by decide, rfl, rfl, rfl, Or.inl (zgd 144 (by decide +kernel) rfl)⟩
theorem f_State_22 : zFl RX6 22 6 2 (.int) false := ⟨RX6, TX6, tyX6, 6, k_State, by decide, rfl, rfl, rfl, Or.inl (zgd 145 (by decide +kernel) rfl)⟩
theorem f_RC_109 : zFl RX9 109 6 2 (.int) false := ⟨RX6, TX6, tyX6, 6, k_State, by decide, rfl, rfl, rfl, Or.inl (zgd 146 (by decide +kernel) rfl)⟩
theorem f_State_31 : zFl RX6 31 6 3 (.object "RunColumns$Pairs") true := ⟨RX6, TX6, tyX6, 6, k_State, by decide, rfl, rfl, rfl, Or.inl (zgd 147 (by decide +kernel) rfl)⟩
theorem F_State_31 : zFF RX6 31 6 3 (.object "RunColumns$Pairs") := ⟨RX6, TX6, tyX6, 6, k_State, by decide, rfl, rfl, rfl, rfl, zgd 147 (by decide +kernel) rfl⟩
theorem f_RC_212 : zFl RX9 212 6 3 (.object "RunColumns$Pairs") true := ⟨RX6, TX6, tyX6, 6, k_State, by decide, rfl, rfl, rfl, Or.inl (zgd 148 (by decide +kernel) rfl)⟩
theorem f_State_35 : zFl RX6 35 6 4 (.object "RunColumns$Pairs") true := ⟨RX6, TX6, tyX6, 6, k_State, by decide, rfl, rfl, rfl, Or.inl (zgd 149 (by decide +kernel) rfl)⟩
theorem F_State_35 : zFF RX6 35 6 4 (.object "RunColumns$Pairs") := ⟨RX6, TX6, tyX6, 6, k_State, by decide, rfl, rfl, rfl, rfl, zgd 149 (by decide +kernel) rfl⟩
theorem f_RC_240 : zFl RX9 240 6 4 (.object "RunColumns$Pairs") true := ⟨RX6, TX6, tyX6, 6, k_State, by decide, rfl, rfl, rfl, Or.inl (zgd 150 (by decide +kernel) rfl)⟩
theorem f_State_38 : zFl RX6 38 6 5 (.object "RunColumns$Pairs") true := ⟨RX6, TX6, tyX6, 6, k_State, by decide, rfl, rfl, rfl, Or.inl (zgd 151 (by decide +kernel) rfl)⟩
theorem F_State_38 : zFF RX6 38 6 5 (.object "RunColumns$Pairs") := ⟨RX6, TX6, tyX6, 6, k_State, by decide, rfl, rfl, rfl, rfl, zgd 151 (by decide +kernel) rfl⟩
theorem f_RC_247 : zFl RX9 247 6 5 (.object "RunColumns$Pairs") true := ⟨RX6, TX6, tyX6, 6, k_State, by decide, rfl, rfl, rfl, Or.inl (zgd 152 (by decide +kernel) rfl)⟩
theorem f_Reader_9 : zFl RX4 9 4 0 (.array .byte) true := ⟨RX4, TX4, tyX4, 4, k_Reader, by decide, rfl, rfl, rfl, Or.inl (zgd 172 (by decide +kernel) rfl)⟩
theorem F_Reader_9 : zFF RX4 9 4 0 (.array .byte) := ⟨RX4, TX4, tyX4, 4, k_Reader, by decide, rfl, rfl, rfl, rfl, zgd 172 (by decide +kernel) rfl⟩
theorem f_Reader_15 : zFl RX4 15 4 1 (.int) false := ⟨RX4, TX4, tyX4, 4, k_Reader, by decide, rfl, rfl, rfl, Or.inl (zgd 173 (by decide +kernel) rfl)⟩
theorem f_RC_143 : zFl RX9 143 4 1 (.int) false := ⟨RX4, TX4, tyX4, 4, k_Reader, by decide, rfl, rfl, rfl, Or.inl (zgd 174 (by decide +kernel) rfl)⟩
theorem f_Reader_19 : zFl RX4 19 4 2 (.int) false := ⟨RX4, TX4, tyX4, 4, k_Reader, by decide, rfl, rfl, rfl, Or.inl (zgd 175 (by decide +kernel) rfl)⟩
theorem f_Reader_22 : zFl RX4 22 4 3 (.int) false := ⟨RX4, TX4, tyX4, 4, k_Reader, by decide, rfl, rfl, rfl, Or.inl (zgd 176 (by decide +kernel) rfl)⟩
theorem f_Work_11 : zFl RX8 11 8 0 (.array (.object "RunColumns$Bits")) true := ⟨RX8, TX8, tyX8, 4, k_Work, by decide, rfl, rfl, rfl, Or.inl (zgd 199 (by decide +kernel) rfl)⟩
theorem F_Work_11 : zFF RX8 11 8 0 (.array (.object "RunColumns$Bits")) := ⟨RX8, TX8, tyX8, 4, k_Work, by decide, rfl, rfl, rfl, rfl, zgd 199 (by decide +kernel) rfl⟩
theorem f_Work_17 : zFl RX8 17 8 1 (.array .int) true := ⟨RX8, TX8, tyX8, 4, k_Work, by decide, rfl, rfl, rfl, Or.inl (zgd 200 (by decide +kernel) rfl)⟩
theorem F_Work_17 : zFF RX8 17 8 1 (.array .int) := ⟨RX8, TX8, tyX8, 4, k_Work, by decide, rfl, rfl, rfl, rfl, zgd 200 (by decide +kernel) rfl⟩
theorem f_Work_21 : zFl RX8 21 8 2 (.array .int) true := ⟨RX8, TX8, tyX8, 4, k_Work, by decide, rfl, rfl, rfl, Or.inl (zgd 201 (by decide +kernel) rfl)⟩
theorem F_Work_21 : zFF RX8 21 8 2 (.array .int) := ⟨RX8, TX8, tyX8, 4, k_Work, by decide, rfl, rfl, rfl, rfl, zgd 201 (by decide +kernel) rfl⟩
theorem f_Work_24 : zFl RX8 24 8 3 (.int) false := ⟨RX8, TX8, tyX8, 4, k_Work, by decide, rfl, rfl, rfl, Or.inl (zgd 202 (by decide +kernel) rfl)⟩
theorem f_Groups_12 : zFl RX1 12 1 0 (.object "RunColumns$Bits") true := ⟨RX1, TX1, tyX1, 3, k_Groups, by decide, rfl, rfl, rfl, Or.inl (zgd 222 (by decide +kernel) rfl)⟩
theorem F_Groups_12 : zFF RX1 12 1 0 (.object "RunColumns$Bits") := ⟨RX1, TX1, tyX1, 3, k_Groups, by decide, rfl, rfl, rfl, rfl, zgd 222 (by decide +kernel) rfl⟩
theorem f_Groups_18 : zFl RX1 18 1 1 (.array .int) true := ⟨RX1, TX1, tyX1, 3, k_Groups, by decide, rfl, rfl, rfl, Or.inl (zgd 223 (by decide +kernel) rfl)⟩
theorem F_Groups_18 : zFF RX1 18 1 1 (.array .int) := ⟨RX1, TX1, tyX1, 3, k_Groups, by decide, rfl, rfl, rfl, rfl, zgd 223 (by decide +kernel) rfl⟩
theorem f_RC_187 : zFl RX9 187 1 1 (.array .int) true := ⟨RX1, TX1, tyX1, 3, k_Groups, by decide, rfl, rfl, rfl, Or.inl (zgd 224 (by decide +kernel) rfl)⟩
theorem f_Groups_22 : zFl RX1 22 1 2 (.int) false := ⟨RX1, TX1, tyX1, 3, k_Groups, by decide, rfl, rfl, rfl, Or.inl (zgd 225 (by decide +kernel) rfl)⟩
theorem f_RC_237 : zFl RX9 237 1 2 (.int) false := ⟨RX1, TX1, tyX1, 3, k_Groups, by decide, rfl, rfl, rfl, Or.inl (zgd 226 (by decide +kernel) rfl)⟩
theorem f_Query_9 : zFl RX3 9 3 0 (.array .byte) true := ⟨RX3, TX3, tyX3, 5, k_Query, by decide, rfl, rfl, rfl, Or.inl (zgd 241 (by decide +kernel) rfl)⟩
theorem F_Query_9 : zFF RX3 9 3 0 (.array .byte) := ⟨RX3, TX3, tyX3, 5, k_Query, by decide, rfl, rfl, rfl, rfl, zgd 241 (by decide +kernel) rfl⟩
theorem f_Query_15 : zFl RX3 15 3 1 (.array .byte) true := ⟨RX3, TX3, tyX3, 5, k_Query, by decide, rfl, rfl, rfl, Or.inl (zgd 243 (by decide +kernel) rfl)⟩
theorem F_Query_15 : zFF RX3 15 3 1 (.array .byte) := ⟨RX3, TX3, tyX3, 5, k_Query, by decide, rfl, rfl, rfl, rfl, zgd 243 (by decide +kernel) rfl⟩
theorem f_Query_18 : zFl RX3 18 3 2 (.array .byte) true := ⟨RX3, TX3, tyX3, 5, k_Query, by decide, rfl, rfl, rfl, Or.inl (zgd 245 (by decide +kernel) rfl)⟩
theorem F_Query_18 : zFF RX3 18 3 2 (.array .byte) := ⟨RX3, TX3, tyX3, 5, k_Query, by decide, rfl, rfl, rfl, rfl, zgd 245 (by decide +kernel) rfl⟩
theorem f_Query_21 : zFl RX3 21 3 3 (.array .byte) true := ⟨RX3, TX3, tyX3, 5, k_Query, by decide, rfl, rfl, rfl, Or.inl (zgd 247 (by decide +kernel) rfl)⟩
theorem F_Query_21 : zFF RX3 21 3 3 (.array .byte) := ⟨RX3, TX3, tyX3, 5, k_Query, by decide, rfl, rfl, rfl, rfl, zgd 247 (by decide +kernel) rfl⟩
theorem f_Query_24 : zFl RX3 24 3 4 (.int) false := ⟨RX3, TX3, tyX3, 5, k_Query, by decide, rfl, rfl, rfl, Or.inl (zgd 249 (by decide +kernel) rfl)⟩
theorem f_Reader_25 : zFl RX4 25 3 4 (.int) false := ⟨RX3, TX3, tyX3, 5, k_Query, by decide, rfl, rfl, rfl, Or.inl (zgd 250 (by decide +kernel) rfl)⟩
theorem f_Work_29 : zFl RX8 29 3 4 (.int) false := ⟨RX3, TX3, tyX3, 5, k_Query, by decide, rfl, rfl, rfl, Or.inl (zgd 251 (by decide +kernel) rfl)⟩
theorem f_Tape_9 : zFl RX7 9 7 0 (.array .long) true := ⟨RX7, TX7, tyX7, 3, k_Tape, by decide, rfl, rfl, rfl, Or.inl (zgd 268 (by decide +kernel) rfl)⟩
theorem F_Tape_9 : zFF RX7 9 7 0 (.array .long) := ⟨RX7, TX7, tyX7, 3, k_Tape, by decide, rfl, rfl, rfl, rfl, zgd 268 (by decide +kernel) rfl⟩
theorem f_RC_266 : zFl RX9 266 7 0 (.array .long) true := ⟨RX7, TX7, tyX7, 3, k_Tape, by decide, rfl, rfl, rfl, Or.inl (zgd 269 (by decide +kernel) rfl)⟩
theorem f_Tape_15 : zFl RX7 15 7 1 (.int) false := ⟨RX7, TX7, tyX7, 3, k_Tape, by decide, rfl, rfl, rfl, Or.inl (zgd 270 (by decide +kernel) rfl)⟩
theorem f_RC_262 : zFl RX9 262 7 1 (.int) false := ⟨RX7, TX7, tyX7, 3, k_Tape, by decide, rfl, rfl, rfl, Or.inl (zgd 271 (by decide +kernel) rfl)⟩
theorem f_Tape_19 : zFl RX7 19 7 2 (.int) false := ⟨RX7, TX7, tyX7, 3, k_Tape, by decide, rfl, rfl, rfl, Or.inl (zgd 272 (by decide +kernel) rfl)⟩
theorem f_RC_265 : zFl RX9 265 7 2 (.int) false := ⟨RX7, TX7, tyX7, 3, k_Tape, by decide, rfl, rfl, rfl, Or.inl (zgd 273 (by decide +kernel) rfl)⟩
theorem f_RC_14 : zFl RX9 14 9 0 (.object "RunColumns$State") true := ⟨RX9, TX9, tyX9, 12, k_RC, by decide, rfl, rfl, rfl, Or.inl (zgd 282 (by decide +kernel) rfl)⟩
theorem F_RC_14 : zFF RX9 14 9 0 (.object "RunColumns$State") := ⟨RX9, TX9, tyX9, 12, k_RC, by decide, rfl, rfl, rfl, rfl, zgd 282 (by decide +kernel) rfl⟩
theorem f_RC_18 : zFl RX9 18 9 1 (.object "RunColumns$State") true := ⟨RX9, TX9, tyX9, 12, k_RC, by decide, rfl, rfl, rfl, Or.inl (zgd 283 (by decide +kernel) rfl)⟩
theorem F_RC_18 : zFF RX9 18 9 1 (.object "RunColumns$State") := ⟨RX9, TX9, tyX9, 12, k_RC, by decide, rfl, rfl, rfl, rfl, zgd 283 (by decide +kernel) rfl⟩
theorem f_RC_21 : zFl RX9 21 9 2 (.boolean) false := ⟨RX9, TX9, tyX9, 12, k_RC, by decide, rfl, rfl, rfl, Or.inl (zgd 284 (by decide +kernel) rfl)⟩
theorem f_RC_28 : zFl RX9 28 9 3 (.object "RunColumns$Reader") true := ⟨RX9, TX9, tyX9, 12, k_RC, by decide, rfl, rfl, rfl, Or.inl (zgd 285 (by decide +kernel) rfl)⟩
theorem F_RC_28 : zFF RX9 28 9 3 (.object "RunColumns$Reader") := ⟨RX9, TX9, tyX9, 12, k_RC, by decide, rfl, rfl, rfl, rfl, zgd 285 (by decide +kernel) rfl⟩
theorem f_RC_34 : zFl RX9 34 9 4 (.array (.object "RunColumns$Query")) true := ⟨RX9, TX9, tyX9, 12, k_RC, by decide, rfl, rfl, rfl, Or.inl (zgd 286 (by decide +kernel) rfl)⟩
theorem F_RC_34 : zFF RX9 34 9 4 (.array (.object "RunColumns$Query")) := ⟨RX9, TX9, tyX9, 12, k_RC, by decide, rfl, rfl, rfl, rfl, zgd 286 (by decide +kernel) rfl⟩
theorem f_RC_38 : zFl RX9 38 9 5 (.int) false := ⟨RX9, TX9, tyX9, 12, k_RC, by decide, rfl, rfl, rfl, Or.inl (zgd 287 (by decide +kernel) rfl)⟩
theorem f_RC_44 : zFl RX9 44 9 6 (.array (.object "RunColumns$Tape")) true := ⟨RX9, TX9, tyX9, 12, k_RC, by decide, rfl, rfl, rfl, Or.inl (zgd 288 (by decide +kernel) rfl)⟩
theorem F_RC_44 : zFF RX9 44 9 6 (.array (.object "RunColumns$Tape")) := ⟨RX9, TX9, tyX9, 12, k_RC, by decide, rfl, rfl, rfl, rfl, zgd 288 (by decide +kernel) rfl⟩
theorem f_RC_51 : zFl RX9 51 9 7 (.object "RunColumns$Work") true := ⟨RX9, TX9, tyX9, 12, k_RC, by decide, rfl, rfl, rfl, Or.inl (zgd 289 (by decide +kernel) rfl)⟩
theorem F_RC_51 : zFF RX9 51 9 7 (.object "RunColumns$Work") := ⟨RX9, TX9, tyX9, 12, k_RC, by decide, rfl, rfl, rfl, rfl, zgd 289 (by decide +kernel) rfl⟩
theorem f_RC_55 : zFl RX9 55 9 8 (.object "RunColumns$Work") true := ⟨RX9, TX9, tyX9, 12, k_RC, by decide, rfl, rfl, rfl, Or.inl (zgd 290 (by decide +kernel) rfl)⟩
theorem F_RC_55 : zFF RX9 55 9 8 (.object "RunColumns$Work") := ⟨RX9, TX9, tyX9, 12, k_RC, by decide, rfl, rfl, rfl, rfl, zgd 290 (by decide +kernel) rfl⟩
theorem f_RC_61 : zFl RX9 61 9 9 (.object "RunColumns$Bits") true := ⟨RX9, TX9, tyX9, 12, k_RC, by decide, rfl, rfl, rfl, Or.inl (zgd 291 (by decide +kernel) rfl)⟩
theorem F_RC_61 : zFF RX9 61 9 9 (.object "RunColumns$Bits") := ⟨RX9, TX9, tyX9, 12, k_RC, by decide, rfl, rfl, rfl, rfl, zgd 291 (by decide +kernel) rfl⟩
theorem f_RC_68 : zFl RX9 68 9 10 (.object "RunColumns$Groups") true := ⟨RX9, TX9, tyX9, 12, k_RC, by decide, rfl, rfl, rfl, Or.inl (zgd 292 (by decide +kernel) rfl)⟩
theorem F_RC_68 : zFF RX9 68 9 10 (.object "RunColumns$Groups") := ⟨RX9, TX9, tyX9, 12, k_RC, by decide, rfl, rfl, rfl, rfl, zgd 292 (by decide +kernel) rfl⟩
theorem f_RC_75 : zFl RX9 75 9 11 (.object "RunColumns$Rows") true := ⟨RX9, TX9, tyX9, 12, k_RC, by decide, rfl, rfl, rfl, Or.inl (zgd 293 (by decide +kernel) rfl)⟩
theorem F_RC_75 : zFF RX9 75 9 11 (.object "RunColumns$Rows") := ⟨RX9, TX9, tyX9, 12, k_RC, by decide, rfl, rfl, rfl, rfl, zgd 293 (by decide +kernel) rfl⟩
theorem f_Mo_11 : zFl RX10 11 10 0 (.array .int) true := ⟨RX10, TX10, tyX10, 23, k_Mo, by decide, rfl, rfl, rfl, Or.inl (zgd 871 (by decide +kernel) rfl)⟩
theorem F_Mo_11 : zFF RX10 11 10 0 (.array .int) := ⟨RX10, TX10, tyX10, 23, k_Mo, by decide, rfl, rfl, rfl, rfl, zgd 871 (by decide +kernel) rfl⟩
theorem f_Mo_15 : zFl RX10 15 10 1 (.array .int) true := ⟨RX10, TX10, tyX10, 23, k_Mo, by decide, rfl, rfl, rfl, Or.inl (zgd 872 (by decide +kernel) rfl)⟩
theorem F_Mo_15 : zFF RX10 15 10 1 (.array .int) := ⟨RX10, TX10, tyX10, 23, k_Mo, by decide, rfl, rfl, rfl, rfl, zgd 872 (by decide +kernel) rfl⟩
theorem f_Mo_18 : zFl RX10 18 10 2 (.array .int) true := ⟨RX10, TX10, tyX10, 23, k_Mo, by decide, rfl, rfl, rfl, Or.inl (zgd 873 (by decide +kernel) rfl)⟩
theorem F_Mo_18 : zFF RX10 18 10 2 (.array .int) := ⟨RX10, TX10, tyX10, 23, k_Mo, by decide, rfl, rfl, rfl, rfl, zgd 873 (by decide +kernel) rfl⟩
theorem f_Mo_198 : zFl RX10 198 10 3 (.boolean) false := ⟨RX10, TX10, tyX10, 23, k_Mo, by decide, rfl, rfl, rfl, Or.inl (zgd 874 (by decide +kernel) rfl)⟩
theorem f_Mo_114 : zFl RX10 114 10 4 (.int) false := ⟨RX10, TX10, tyX10, 23, k_Mo, by decide, rfl, rfl, rfl, Or.inl (zgd 875 (by decide +kernel) rfl)⟩
theorem f_Mo_21 : zFl RX10 21 10 5 (.array .int) true := ⟨RX10, TX10, tyX10, 23, k_Mo, by decide, rfl, rfl, rfl, Or.inl (zgd 876 (by decide +kernel) rfl)⟩
theorem F_Mo_21 : zFF RX10 21 10 5 (.array .int) := ⟨RX10, TX10, tyX10, 23, k_Mo, by decide, rfl, rfl, rfl, rfl, zgd 876 (by decide +kernel) rfl⟩
theorem f_Mo_24 : zFl RX10 24 10 6 (.array .int) true := ⟨RX10, TX10, tyX10, 23, k_Mo, by decide, rfl, rfl, rfl, Or.inl (zgd 877 (by decide +kernel) rfl)⟩
theorem F_Mo_24 : zFF RX10 24 10 6 (.array .int) := ⟨RX10, TX10, tyX10, 23, k_Mo, by decide, rfl, rfl, rfl, rfl, zgd 877 (by decide +kernel) rfl⟩
theorem f_Mo_27 : zFl RX10 27 10 7 (.array .int) true := ⟨RX10, TX10, tyX10, 23, k_Mo, by decide, rfl, rfl, rfl, Or.inl (zgd 878 (by decide +kernel) rfl)⟩
theorem F_Mo_27 : zFF RX10 27 10 7 (.array .int) := ⟨RX10, TX10, tyX10, 23, k_Mo, by decide, rfl, rfl, rfl, rfl, zgd 878 (by decide +kernel) rfl⟩
theorem f_Mo_30 : zFl RX10 30 10 8 (.array .int) true := ⟨RX10, TX10, tyX10, 23, k_Mo, by decide, rfl, rfl, rfl, Or.inl (zgd 879 (by decide +kernel) rfl)⟩
theorem F_Mo_30 : zFF RX10 30 10 8 (.array .int) := ⟨RX10, TX10, tyX10, 23, k_Mo, by decide, rfl, rfl, rfl, rfl, zgd 879 (by decide +kernel) rfl⟩
theorem f_Mo_33 : zFl RX10 33 10 9 (.array .int) true := ⟨RX10, TX10, tyX10, 23, k_Mo, by decide, rfl, rfl, rfl, Or.inl (zgd 880 (by decide +kernel) rfl)⟩
theorem F_Mo_33 : zFF RX10 33 10 9 (.array .int) := ⟨RX10, TX10, tyX10, 23, k_Mo, by decide, rfl, rfl, rfl, rfl, zgd 880 (by decide +kernel) rfl⟩
theorem f_Mo_36 : zFl RX10 36 10 10 (.array .int) true := ⟨RX10, TX10, tyX10, 23, k_Mo, by decide, rfl, rfl, rfl, Or.inl (zgd 881 (by decide +kernel) rfl)⟩
theorem F_Mo_36 : zFF RX10 36 10 10 (.array .int) := ⟨RX10, TX10, tyX10, 23, k_Mo, by decide, rfl, rfl, rfl, rfl, zgd 881 (by decide +kernel) rfl⟩
theorem f_Mo_39 : zFl RX10 39 10 11 (.array .int) true := ⟨RX10, TX10, tyX10, 23, k_Mo, by decide, rfl, rfl, rfl, Or.inl (zgd 882 (by decide +kernel) rfl)⟩
theorem F_Mo_39 : zFF RX10 39 10 11 (.array .int) := ⟨RX10, TX10, tyX10, 23, k_Mo, by decide, rfl, rfl, rfl, rfl, zgd 882 (by decide +kernel) rfl⟩
theorem f_Mo_42 : zFl RX10 42 10 12 (.array .int) true := ⟨RX10, TX10, tyX10, 23, k_Mo, by decide, rfl, rfl, rfl, Or.inl (zgd 883 (by decide +kernel) rfl)⟩
theorem F_Mo_42 : zFF RX10 42 10 12 (.array .int) := ⟨RX10, TX10, tyX10, 23, k_Mo, by decide, rfl, rfl, rfl, rfl, zgd 883 (by decide +kernel) rfl⟩
theorem f_Mo_85 : zFl RX10 85 10 13 (.int) false := ⟨RX10, TX10, tyX10, 23, k_Mo, by decide, rfl, rfl, rfl, Or.inl (zgd 884 (by decide +kernel) rfl)⟩
theorem f_Mo_45 : zFl RX10 45 10 14 (.array .int) true := ⟨RX10, TX10, tyX10, 23, k_Mo, by decide, rfl, rfl, rfl, Or.inl (zgd 885 (by decide +kernel) rfl)⟩
theorem F_Mo_45 : zFF RX10 45 10 14 (.array .int) := ⟨RX10, TX10, tyX10, 23, k_Mo, by decide, rfl, rfl, rfl, rfl, zgd 885 (by decide +kernel) rfl⟩
theorem f_Mo_48 : zFl RX10 48 10 15 (.array .int) true := ⟨RX10, TX10, tyX10, 23, k_Mo, by decide, rfl, rfl, rfl, Or.inl (zgd 886 (by decide +kernel) rfl)⟩
theorem F_Mo_48 : zFF RX10 48 10 15 (.array .int) := ⟨RX10, TX10, tyX10, 23, k_Mo, by decide, rfl, rfl, rfl, rfl, zgd 886 (by decide +kernel) rfl⟩
theorem f_Mo_51 : zFl RX10 51 10 16 (.array .int) true := ⟨RX10, TX10, tyX10, 23, k_Mo, by decide, rfl, rfl, rfl, Or.inl (zgd 887 (by decide +kernel) rfl)⟩
theorem F_Mo_51 : zFF RX10 51 10 16 (.array .int) := ⟨RX10, TX10, tyX10, 23, k_Mo, by decide, rfl, rfl, rfl, rfl, zgd 887 (by decide +kernel) rfl⟩
theorem f_Mo_56 : zFl RX10 56 10 17 (.array (.array .long)) true := ⟨RX10, TX10, tyX10, 23, k_Mo, by decide, rfl, rfl, rfl, Or.inl (zgd 888 (by decide +kernel) rfl)⟩
theorem F_Mo_56 : zFF RX10 56 10 17 (.array (.array .long)) := ⟨RX10, TX10, tyX10, 23, k_Mo, by decide, rfl, rfl, rfl, rfl, zgd 888 (by decide +kernel) rfl⟩
theorem f_Mo_59 : zFl RX10 59 10 18 (.array .long) true := ⟨RX10, TX10, tyX10, 23, k_Mo, by decide, rfl, rfl, rfl, Or.inl (zgd 889 (by decide +kernel) rfl)⟩
theorem F_Mo_59 : zFF RX10 59 10 18 (.array .long) := ⟨RX10, TX10, tyX10, 23, k_Mo, by decide, rfl, rfl, rfl, rfl, zgd 889 (by decide +kernel) rfl⟩
theorem f_Mo_92 : zFl RX10 92 10 19 (.int) false := ⟨RX10, TX10, tyX10, 23, k_Mo, by decide, rfl, rfl, rfl, Or.inl (zgd 890 (by decide +kernel) rfl)⟩
theorem f_Mo_89 : zFl RX10 89 10 20 (.int) false := ⟨RX10, TX10, tyX10, 23, k_Mo, by decide, rfl, rfl, rfl, Or.inl (zgd 891 (by decide +kernel) rfl)⟩
theorem f_Mo_111 : zFl RX10 111 10 21 (.int) false := ⟨RX10, TX10, tyX10, 23, k_Mo, by decide, rfl, rfl, rfl, Or.inl (zgd 892 (by decide +kernel) rfl)⟩
theorem f_Mo_108 : zFl RX10 108 10 22 (.int) false := ⟨RX10, TX10, tyX10, 23, k_Mo, by decide, rfl, rfl, rfl, Or.inl (zgd 893 (by decide +kernel) rfl)⟩
theorem f_Work_34 : zFl RX8 34 3 0 (.array .byte) true := ⟨RX3, TX3, tyX3, 5, k_Query, by decide, rfl, rfl, rfl, Or.inr ⟨"RunColumns", List.mem_of_getElem? (i := 242) (by decide +kernel)⟩⟩
theorem f_Work_73 : zFl RX8 73 3 1 (.array .byte) true := ⟨RX3, TX3, tyX3, 5, k_Query, by decide, rfl, rfl, rfl, Or.inr ⟨"RunColumns", List.mem_of_getElem? (i := 244) (by decide +kernel)⟩⟩
theorem f_Work_82 : zFl RX8 82 3 2 (.array .byte) true := ⟨RX3, TX3, tyX3, 5, k_Query, by decide, rfl, rfl, rfl, Or.inr ⟨"RunColumns", List.mem_of_getElem? (i := 246) (by decide +kernel)⟩⟩
theorem f_Work_85 : zFl RX8 85 3 3 (.array .byte) true := ⟨RX3, TX3, tyX3, 5, k_Query, by decide, rfl, rfl, rfl, Or.inr ⟨"RunColumns", List.mem_of_getElem? (i := 248) (by decide +kernel)⟩⟩
theorem l_La_9 : zLI RL 9 m_RC_init 0 := ⟨⟨cm_RC_init, i_RC, by decide, by decide, by decide +kernel⟩, Or.inl (zgd 73 (by decide +kernel) rfl), zgd 74 (by decide +kernel) rfl, rfl, rfl⟩
theorem l_State_11 : zLI RX6 11 m_Rows_init 0 := ⟨⟨cm_Rows_init, i_Rows, by decide, by decide, by decide +kernel⟩, Or.inl (zgd 87 (by decide +kernel) rfl), zgd 88 (by decide +kernel) rfl, rfl, rfl⟩
theorem l_State_28 : zLI RX6 28 m_Pairs_init 1 := ⟨⟨cm_Pairs_init, i_Pairs, by decide, by decide, by decide +kernel⟩, Or.inl (zgd 117 (by decide +kernel) rfl), zgd 118 (by decide +kernel) rfl, rfl, rfl⟩
theorem l_RC_50 : zLI RX9 50 m_Work_init 0 := ⟨⟨cm_Work_init, i_Work, by decide, by decide, by decide +kernel⟩, Or.inl (zgd 193 (by decide +kernel) rfl), zgd 194 (by decide +kernel) rfl, rfl, rfl⟩
theorem l_RC_74 : zLI RX9 74 m_Rows_init 0 := ⟨⟨cm_Rows_init, i_Rows, by decide, by decide, by decide +kernel⟩, Or.inl (zgd 235 (by decide +kernel) rfl), zgd 88 (by decide +kernel) rfl, rfl, rfl⟩
theorem l_La_13 : zLV RL 13 m_RC_add 9 4 := ⟨⟨cm_RC_add, i_RC, by decide, by decide, by decide +kernel⟩, zgd 319 (by decide +kernel) rfl, zgd 320 (by decide +kernel) rfl, zgd 321 (by decide +kernel) rfl, rfl⟩
theorem l_RC_81 : zLS RX9 81 m_RC_isValue 1 := ⟨⟨cm_RC_isValue, i_RC, by decide, by decide, by decide +kernel⟩, zgd 323 (by decide +kernel) rfl, zgd 324 (by decide +kernel) rfl⟩
theorem l_RC_88 : zLV RX9 88 m_Rows_isFull 5 0 := ⟨⟨cm_Rows_isFull, i_Rows, by decide, by decide, by decide +kernel⟩, zgd 326 (by decide +kernel) rfl, zgd 327 (by decide +kernel) rfl, zgd 328 (by decide +kernel) rfl, rfl⟩
theorem l_RC_92 : zLV RX9 92 m_Rows_append 5 4 := ⟨⟨cm_Rows_append, i_Rows, by decide, by decide, by decide +kernel⟩, zgd 330 (by decide +kernel) rfl, zgd 331 (by decide +kernel) rfl, zgd 332 (by decide +kernel) rfl, rfl⟩
theorem l_Rows_30 : zLV RX5 30 m_Rows_putLast 5 2 := ⟨⟨cm_Rows_putLast, i_Rows, by decide, by decide, by decide +kernel⟩, zgd 334 (by decide +kernel) rfl, zgd 336 (by decide +kernel) rfl, zgd 0 (by decide +kernel) rfl, rfl⟩
theorem l_Rows_22 : zLV RX5 22 m_Rows_bitsOf 5 2 := ⟨⟨cm_Rows_bitsOf, i_Rows, by decide, by decide, by decide +kernel⟩, zgd 338 (by decide +kernel) rfl, zgd 339 (by decide +kernel) rfl, zgd 340 (by decide +kernel) rfl, rfl⟩
theorem l_Rows_42 : zLV RX5 42 m_Bits_put 0 1 := ⟨⟨cm_Bits_put, i_Bits, by decide, by decide, by decide +kernel⟩, zgd 342 (by decide +kernel) rfl, zgd 343 (by decide +kernel) rfl, zgd 344 (by decide +kernel) rfl, rfl⟩
theorem l_La_18 : zLV RL 18 m_RC_at 9 2 := ⟨⟨cm_RC_at, i_RC, by decide, by decide, by decide +kernel⟩, zgd 346 (by decide +kernel) rfl, zgd 347 (by decide +kernel) rfl, zgd 348 (by decide +kernel) rfl, rfl⟩
theorem l_RC_99 : zLV RX9 99 m_Rows_hasRow 5 1 := ⟨⟨cm_Rows_hasRow, i_Rows, by decide, by decide, by decide +kernel⟩, zgd 350 (by decide +kernel) rfl, zgd 351 (by decide +kernel) rfl, zgd 352 (by decide +kernel) rfl, rfl⟩
theorem l_RC_102 : zLS RX9 102 m_RC_isColumn 1 := ⟨⟨cm_RC_isColumn, i_RC, by decide, by decide, by decide +kernel⟩, zgd 354 (by decide +kernel) rfl, zgd 355 (by decide +kernel) rfl⟩
theorem l_RC_105 : zLV RX9 105 m_Rows_valueOf 5 2 := ⟨⟨cm_Rows_valueOf, i_Rows, by decide, by decide, by decide +kernel⟩, zgd 357 (by decide +kernel) rfl, zgd 358 (by decide +kernel) rfl, zgd 359 (by decide +kernel) rfl, rfl⟩
theorem l_Rows_26 : zLV RX5 26 m_Bits_has 0 1 := ⟨⟨cm_Bits_has, i_Bits, by decide, by decide, by decide +kernel⟩, zgd 361 (by decide +kernel) rfl, zgd 362 (by decide +kernel) rfl, zgd 363 (by decide +kernel) rfl, rfl⟩
theorem l_La_23 : zLV RL 23 m_RC_mark 9 0 := ⟨⟨cm_RC_mark, i_RC, by decide, by decide, by decide +kernel⟩, zgd 365 (by decide +kernel) rfl, zgd 366 (by decide +kernel) rfl, zgd 367 (by decide +kernel) rfl, rfl⟩
theorem l_La_28 : zLV RL 28 m_RC_back 9 1 := ⟨⟨cm_RC_back, i_RC, by decide, by decide, by decide +kernel⟩, zgd 369 (by decide +kernel) rfl, zgd 370 (by decide +kernel) rfl, zgd 371 (by decide +kernel) rfl, rfl⟩
theorem l_RC_116 : zLV RX9 116 m_State_hasMark 6 1 := ⟨⟨cm_State_hasMark, i_State, by decide, by decide, by decide +kernel⟩, zgd 373 (by decide +kernel) rfl, zgd 374 (by decide +kernel) rfl, zgd 375 (by decide +kernel) rfl, rfl⟩
theorem l_RC_119 : zLV RX9 119 m_Rows_cutTo 5 1 := ⟨⟨cm_Rows_cutTo, i_Rows, by decide, by decide, by decide +kernel⟩, zgd 377 (by decide +kernel) rfl, zgd 378 (by decide +kernel) rfl, zgd 379 (by decide +kernel) rfl, rfl⟩
theorem l_Rows_46 : zLV RX5 46 m_Bits_cutTo 0 1 := ⟨⟨cm_Bits_cutTo, i_Bits, by decide, by decide, by decide +kernel⟩, zgd 381 (by decide +kernel) rfl, zgd 382 (by decide +kernel) rfl, zgd 383 (by decide +kernel) rfl, rfl⟩
theorem l_Bits_20 : zLS RX0 20 m_Bits_firstOnes 1 := ⟨⟨cm_Bits_firstOnes, i_Bits, by decide, by decide, by decide +kernel⟩, zgd 385 (by decide +kernel) rfl, zgd 386 (by decide +kernel) rfl⟩
theorem l_La_33 : zLV RL 33 m_RC_runs 9 2 := ⟨⟨cm_RC_runs, i_RC, by decide, by decide, by decide +kernel⟩, zgd 389 (by decide +kernel) rfl, zgd 390 (by decide +kernel) rfl, zgd 391 (by decide +kernel) rfl, rfl⟩
theorem l_RC_123 : zLS RX9 123 m_RC_isKind 1 := ⟨⟨cm_RC_isKind, i_RC, by decide, by decide, by decide +kernel⟩, zgd 393 (by decide +kernel) rfl, zgd 394 (by decide +kernel) rfl⟩
theorem l_RC_126 : zLV RX9 126 m_Rows_bitsOf 5 2 := ⟨⟨cm_Rows_bitsOf, i_Rows, by decide, by decide, by decide +kernel⟩, zgd 396 (by decide +kernel) rfl, zgd 339 (by decide +kernel) rfl, zgd 340 (by decide +kernel) rfl, rfl⟩
theorem l_RC_130 : zLV RX9 130 m_Bits_runsWithin 0 1 := ⟨⟨cm_Bits_runsWithin, i_Bits, by decide, by decide, by decide +kernel⟩, zgd 397 (by decide +kernel) rfl, zgd 398 (by decide +kernel) rfl, zgd 399 (by decide +kernel) rfl, rfl⟩
theorem l_Bits_31 : zLS RX0 31 m_JLong_bitCount 1 := ⟨⟨cm_JLong_bitCount, i_JLong, by decide, by decide, by decide +kernel⟩, zgd 401 (by decide +kernel) rfl, zgd 402 (by decide +kernel) rfl⟩
theorem l_La_37 : zLV RL 37 m_RC_run 9 3 := ⟨⟨cm_RC_run, i_RC, by decide, by decide, by decide +kernel⟩, zgd 407 (by decide +kernel) rfl, zgd 408 (by decide +kernel) rfl, zgd 409 (by decide +kernel) rfl, rfl⟩
theorem l_RC_134 : zLV RX9 134 m_Bits_startOfRun 0 2 := ⟨⟨cm_Bits_startOfRun, i_Bits, by decide, by decide, by decide +kernel⟩, zgd 411 (by decide +kernel) rfl, zgd 412 (by decide +kernel) rfl, zgd 413 (by decide +kernel) rfl, rfl⟩
theorem l_Bits_41 : zLV RX0 41 m_Bits_runsWithin 0 1 := ⟨⟨cm_Bits_runsWithin, i_Bits, by decide, by decide, by decide +kernel⟩, zgd 415 (by decide +kernel) rfl, zgd 398 (by decide +kernel) rfl, zgd 399 (by decide +kernel) rfl, rfl⟩
theorem l_Bits_45 : zLV RX0 45 m_Bits_endOfRun 0 2 := ⟨⟨cm_Bits_endOfRun, i_Bits, by decide, by decide, by decide +kernel⟩, zgd 416 (by decide +kernel) rfl, zgd 417 (by decide +kernel) rfl, zgd 418 (by decide +kernel) rfl, rfl⟩
theorem l_Bits_37 : zLV RX0 37 m_Bits_has 0 1 := ⟨⟨cm_Bits_has, i_Bits, by decide, by decide, by decide +kernel⟩, zgd 420 (by decide +kernel) rfl, zgd 362 (by decide +kernel) rfl, zgd 363 (by decide +kernel) rfl, rfl⟩
theorem l_RC_137 : zLV RX9 137 m_Bits_endOfRun 0 2 := ⟨⟨cm_Bits_endOfRun, i_Bits, by decide, by decide, by decide +kernel⟩, zgd 421 (by decide +kernel) rfl, zgd 417 (by decide +kernel) rfl, zgd 418 (by decide +kernel) rfl, rfl⟩
theorem l_RC_140 : zLV RX9 140 m_Bits_has 0 1 := ⟨⟨cm_Bits_has, i_Bits, by decide, by decide, by decide +kernel⟩, zgd 422 (by decide +kernel) rfl, zgd 362 (by decide +kernel) rfl, zgd 363 (by decide +kernel) rfl, rfl⟩
theorem l_La_42 : zLV RL 42 m_RC_feed 9 1 := ⟨⟨cm_RC_feed, i_RC, by decide, by decide, by decide +kernel⟩, zgd 423 (by decide +kernel) rfl, zgd 424 (by decide +kernel) rfl, zgd 425 (by decide +kernel) rfl, rfl⟩
theorem l_RC_146 : zLV RX9 146 m_Reader_append 4 1 := ⟨⟨cm_Reader_append, i_Reader, by decide, by decide, by decide +kernel⟩, zgd 427 (by decide +kernel) rfl, zgd 428 (by decide +kernel) rfl, zgd 429 (by decide +kernel) rfl, rfl⟩
theorem l_La_46 : zLV RL 46 m_RC_query 9 0 := ⟨⟨cm_RC_query, i_RC, by decide, by decide, by decide +kernel⟩, zgd 431 (by decide +kernel) rfl, zgd 432 (by decide +kernel) rfl, zgd 433 (by decide +kernel) rfl, rfl⟩
theorem l_RC_148 : zLV RX9 148 m_Reader_readInto 4 1 := ⟨⟨cm_Reader_readInto, i_Reader, by decide, by decide, by decide +kernel⟩, zgd 435 (by decide +kernel) rfl, zgd 436 (by decide +kernel) rfl, zgd 437 (by decide +kernel) rfl, rfl⟩
theorem l_Reader_30 : zLV RX4 30 m_Reader_readEither 4 2 := ⟨⟨cm_Reader_readEither, i_Reader, by decide, by decide, by decide +kernel⟩, zgd 439 (by decide +kernel) rfl, zgd 441 (by decide +kernel) rfl, zgd 1 (by decide +kernel) rfl, rfl⟩
theorem l_Reader_37 : zLV RX4 37 m_Reader_readBoth 4 2 := ⟨⟨cm_Reader_readBoth, i_Reader, by decide, by decide, by decide +kernel⟩, zgd 443 (by decide +kernel) rfl, zgd 445 (by decide +kernel) rfl, zgd 2 (by decide +kernel) rfl, rfl⟩
theorem l_Reader_54 : zLV RX4 54 m_Reader_readFactor 4 2 := ⟨⟨cm_Reader_readFactor, i_Reader, by decide, by decide, by decide +kernel⟩, zgd 447 (by decide +kernel) rfl, zgd 449 (by decide +kernel) rfl, zgd 3 (by decide +kernel) rfl, rfl⟩
theorem l_Reader_61 : zLV RX4 61 m_Reader_isWordAt 4 2 := ⟨⟨cm_Reader_isWordAt, i_Reader, by decide, by decide, by decide +kernel⟩, zgd 452 (by decide +kernel) rfl, zgd 454 (by decide +kernel) rfl, zgd 4 (by decide +kernel) rfl, rfl⟩
theorem l_Reader_115 : zLk RX4 115 m_JStr_length 0 ∧ Cond.methodLink RX4 115 yJ0_length_8abf5 ∈ lw_gd ∧ Cond.instanceMethod yJ0_length_8abf5 ∈ lw_gd ∧ Cond.selects RJ0 yJ0_length_8abf5 yJ0_length_8abf5 ∈ lw_gd := ⟨⟨cm_JStr_length, i_JStr, by decide, by decide, by decide +kernel⟩, zgd 456 (by decide +kernel) rfl, zgd 457 (by decide +kernel) rfl, zgd 458 (by decide +kernel) rfl⟩
theorem l_JStr_335 : zLk RJ0 335 m_JStr_coder 0 ∧ Cond.methodLink RJ0 335 yJ0_coder_7d493 ∈ lw_gd ∧ Cond.instanceMethod yJ0_coder_7d493 ∈ lw_gd ∧ Cond.selects RJ0 yJ0_coder_7d493 yJ0_coder_7d493 ∈ lw_gd := ⟨⟨cm_JStr_coder, i_JStr, by decide, by decide, by decide +kernel⟩, zgd 460 (by decide +kernel) rfl, zgd 461 (by decide +kernel) rfl, zgd 462 (by decide +kernel) rfl⟩
theorem l_Reader_65 : zLV RX4 65 m_Reader_signAt 4 1 := ⟨⟨cm_Reader_signAt, i_Reader, by decide, by decide, by decide +kernel⟩, zgd 466 (by decide +kernel) rfl, zgd 468 (by decide +kernel) rfl, zgd 5 (by decide +kernel) rfl, rfl⟩
theorem l_Reader_119 : zLk RX4 119 m_JStr_charAt 1 ∧ Cond.methodLink RX4 119 yJ0_charAt_5068e ∈ lw_gd ∧ Cond.instanceMethod yJ0_charAt_5068e ∈ lw_gd ∧ Cond.selects RJ0 yJ0_charAt_5068e yJ0_charAt_5068e ∈ lw_gd := ⟨⟨cm_JStr_charAt, i_JStr, by decide, by decide, by decide +kernel⟩, zgd 470 (by decide +kernel) rfl, zgd 471 (by decide +kernel) rfl, zgd 472 (by decide +kernel) rfl⟩
theorem l_JStr_492 : zLk RJ0 492 m_JStr_isLatin1 0 ∧ Cond.methodLink RJ0 492 yJ0_isLatin1_aae02 ∈ lw_gd ∧ Cond.instanceMethod yJ0_isLatin1_aae02 ∈ lw_gd ∧ Cond.selects RJ0 yJ0_isLatin1_aae02 yJ0_isLatin1_aae02 ∈ lw_gd := ⟨⟨cm_JStr_isLatin1, i_JStr, by decide, by decide, by decide +kernel⟩, zgd 474 (by decide +kernel) rfl, zgd 475 (by decide +kernel) rfl, zgd 476 (by decide +kernel) rfl⟩
theorem l_JStr_495 : zLS RJ0 495 m_JLat_charAt 2 := ⟨⟨cm_JLat_charAt, i_JLat, by decide, by decide, by decide +kernel⟩, zgd 478 (by decide +kernel) rfl, zgd 479 (by decide +kernel) rfl⟩
theorem l_JLat_9 : zLS RJ1 9 m_JStr_checkIndex 2 := ⟨⟨cm_JStr_checkIndex, i_JStr, by decide, by decide, by decide +kernel⟩, zgd 481 (by decide +kernel) rfl, zgd 482 (by decide +kernel) rfl⟩
theorem l_JStr_1059 : zLS RJ0 1059 m_JPre_checkIndex 3 := ⟨⟨cm_JPre_checkIndex, i_JPre, by decide, by decide, by decide +kernel⟩, zgd 486 (by decide +kernel) rfl, zgd 487 (by decide +kernel) rfl⟩
theorem l_JStr_498 : zLS RJ0 498 m_JU16_charAt 2 := ⟨⟨cm_JU16_charAt, i_JU16, by decide, by decide, by decide +kernel⟩, zgd 489 (by decide +kernel) rfl, zgd 490 (by decide +kernel) rfl⟩
theorem l_JU16_67 : zLS RJ2 67 m_JU16_checkIndex 2 := ⟨⟨cm_JU16_checkIndex, i_JU16, by decide, by decide, by decide +kernel⟩, zgd 492 (by decide +kernel) rfl, zgd 493 (by decide +kernel) rfl⟩
theorem l_JU16_48 : zLS RJ2 48 m_JU16_length 1 := ⟨⟨cm_JU16_length, i_JU16, by decide, by decide, by decide +kernel⟩, zgd 495 (by decide +kernel) rfl, zgd 496 (by decide +kernel) rfl⟩
theorem l_JU16_414 : zLS RJ2 414 m_JStr_checkIndex 2 := ⟨⟨cm_JStr_checkIndex, i_JStr, by decide, by decide, by decide +kernel⟩, zgd 498 (by decide +kernel) rfl, zgd 482 (by decide +kernel) rfl⟩
theorem l_JU16_71 : zLS RJ2 71 m_JU16_getChar 2 := ⟨⟨cm_JU16_getChar, i_JU16, by decide, by decide, by decide +kernel⟩, zgd 499 (by decide +kernel) rfl, zgd 500 (by decide +kernel) rfl⟩
theorem l_Reader_102 : zLS RX4 102 m_Reader_isLetter 1 := ⟨⟨cm_Reader_isLetter, i_Reader, by decide, by decide, by decide +kernel⟩, zgd 508 (by decide +kernel) rfl, zgd 509 (by decide +kernel) rfl⟩
theorem l_Reader_69 : zLV RX4 69 m_Reader_blame 4 1 := ⟨⟨cm_Reader_blame, i_Reader, by decide, by decide, by decide +kernel⟩, zgd 511 (by decide +kernel) rfl, zgd 513 (by decide +kernel) rfl, zgd 6 (by decide +kernel) rfl, rfl⟩
theorem l_Reader_72 : zLV RX4 72 m_Reader_passWord 4 1 := ⟨⟨cm_Reader_passWord, i_Reader, by decide, by decide, by decide +kernel⟩, zgd 515 (by decide +kernel) rfl, zgd 517 (by decide +kernel) rfl, zgd 7 (by decide +kernel) rfl, rfl⟩
theorem l_Reader_75 : zLV RX4 75 m_Reader_pass 4 1 := ⟨⟨cm_Reader_pass, i_Reader, by decide, by decide, by decide +kernel⟩, zgd 519 (by decide +kernel) rfl, zgd 521 (by decide +kernel) rfl, zgd 8 (by decide +kernel) rfl, rfl⟩
theorem l_Reader_50 : zLV RX4 50 m_Query_appendJoin 3 1 := ⟨⟨cm_Query_appendJoin, i_Query, by decide, by decide, by decide +kernel⟩, zgd 523 (by decide +kernel) rfl, zgd 524 (by decide +kernel) rfl, zgd 525 (by decide +kernel) rfl, rfl⟩
theorem l_Query_28 : zLV RX3 28 m_Query_appendLeaf 3 4 := ⟨⟨cm_Query_appendLeaf, i_Query, by decide, by decide, by decide +kernel⟩, zgd 527 (by decide +kernel) rfl, zgd 528 (by decide +kernel) rfl, zgd 529 (by decide +kernel) rfl, rfl⟩
theorem l_Reader_79 : zLV RX4 79 m_Reader_passClosing 4 0 := ⟨⟨cm_Reader_passClosing, i_Reader, by decide, by decide, by decide +kernel⟩, zgd 531 (by decide +kernel) rfl, zgd 533 (by decide +kernel) rfl, zgd 9 (by decide +kernel) rfl, rfl⟩
theorem l_Reader_34 : zLV RX4 34 m_Reader_blameWhatFollows 4 0 := ⟨⟨cm_Reader_blameWhatFollows, i_Reader, by decide, by decide, by decide +kernel⟩, zgd 535 (by decide +kernel) rfl, zgd 537 (by decide +kernel) rfl, zgd 10 (by decide +kernel) rfl, rfl⟩
theorem l_Reader_84 : zLV RX4 84 m_Query_appendLeaf 3 4 := ⟨⟨cm_Query_appendLeaf, i_Query, by decide, by decide, by decide +kernel⟩, zgd 540 (by decide +kernel) rfl, zgd 528 (by decide +kernel) rfl, zgd 529 (by decide +kernel) rfl, rfl⟩
theorem l_Reader_88 : zLV RX4 88 m_Reader_readQuestion 4 1 := ⟨⟨cm_Reader_readQuestion, i_Reader, by decide, by decide, by decide +kernel⟩, zgd 541 (by decide +kernel) rfl, zgd 543 (by decide +kernel) rfl, zgd 11 (by decide +kernel) rfl, rfl⟩
theorem l_Reader_92 : zLV RX4 92 m_Reader_passColumn 4 0 := ⟨⟨cm_Reader_passColumn, i_Reader, by decide, by decide, by decide +kernel⟩, zgd 545 (by decide +kernel) rfl, zgd 547 (by decide +kernel) rfl, zgd 12 (by decide +kernel) rfl, rfl⟩
theorem l_Reader_96 : zLV RX4 96 m_Reader_passSort 4 0 := ⟨⟨cm_Reader_passSort, i_Reader, by decide, by decide, by decide +kernel⟩, zgd 549 (by decide +kernel) rfl, zgd 551 (by decide +kernel) rfl, zgd 13 (by decide +kernel) rfl, rfl⟩
theorem l_Reader_99 : zLV RX4 99 m_Reader_passValue 4 0 := ⟨⟨cm_Reader_passValue, i_Reader, by decide, by decide, by decide +kernel⟩, zgd 556 (by decide +kernel) rfl, zgd 558 (by decide +kernel) rfl, zgd 14 (by decide +kernel) rfl, rfl⟩
theorem l_Reader_112 : zLS RX4 112 m_Reader_isDigit 1 := ⟨⟨cm_Reader_isDigit, i_Reader, by decide, by decide, by decide +kernel⟩, zgd 560 (by decide +kernel) rfl, zgd 561 (by decide +kernel) rfl⟩
theorem l_Reader_42 : zLV RX4 42 m_Reader_isJoinedBy 4 1 := ⟨⟨cm_Reader_isJoinedBy, i_Reader, by decide, by decide, by decide +kernel⟩, zgd 564 (by decide +kernel) rfl, zgd 566 (by decide +kernel) rfl, zgd 15 (by decide +kernel) rfl, rfl⟩
theorem l_Reader_46 : zLV RX4 46 m_Reader_passJoin 4 1 := ⟨⟨cm_Reader_passJoin, i_Reader, by decide, by decide, by decide +kernel⟩, zgd 568 (by decide +kernel) rfl, zgd 570 (by decide +kernel) rfl, zgd 16 (by decide +kernel) rfl, rfl⟩
theorem l_La_50 : zLV RL 50 m_RC_of 9 2 := ⟨⟨cm_RC_of, i_RC, by decide, by decide, by decide +kernel⟩, zgd 573 (by decide +kernel) rfl, zgd 574 (by decide +kernel) rfl, zgd 575 (by decide +kernel) rfl, rfl⟩
theorem l_RC_152 : zLV RX9 152 m_RC_isQuery 9 1 := ⟨⟨cm_RC_isQuery, i_RC, by decide, by decide, by decide +kernel⟩, zgd 577 (by decide +kernel) rfl, zgd 579 (by decide +kernel) rfl, zgd 17 (by decide +kernel) rfl, rfl⟩
theorem l_RC_155 : zLV RX9 155 m_Work_goThrough 8 2 := ⟨⟨cm_Work_goThrough, i_Work, by decide, by decide, by decide +kernel⟩, zgd 581 (by decide +kernel) rfl, zgd 582 (by decide +kernel) rfl, zgd 583 (by decide +kernel) rfl, rfl⟩
theorem l_Work_38 : zLV RX8 38 m_Work_turn 8 1 := ⟨⟨cm_Work_turn, i_Work, by decide, by decide, by decide +kernel⟩, zgd 585 (by decide +kernel) rfl, zgd 587 (by decide +kernel) rfl, zgd 18 (by decide +kernel) rfl, rfl⟩
theorem l_Work_53 : zLV RX8 53 m_Bits_turn 0 1 := ⟨⟨cm_Bits_turn, i_Bits, by decide, by decide, by decide +kernel⟩, zgd 589 (by decide +kernel) rfl, zgd 590 (by decide +kernel) rfl, zgd 591 (by decide +kernel) rfl, rfl⟩
theorem l_Bits_28 : zLV RX0 28 m_Bits_cutTo 0 1 := ⟨⟨cm_Bits_cutTo, i_Bits, by decide, by decide, by decide +kernel⟩, zgd 593 (by decide +kernel) rfl, zgd 382 (by decide +kernel) rfl, zgd 383 (by decide +kernel) rfl, rfl⟩
theorem l_Work_42 : zLV RX8 42 m_Work_join 8 2 := ⟨⟨cm_Work_join, i_Work, by decide, by decide, by decide +kernel⟩, zgd 594 (by decide +kernel) rfl, zgd 596 (by decide +kernel) rfl, zgd 19 (by decide +kernel) rfl, rfl⟩
theorem l_Work_56 : zLV RX8 56 m_Bits_runsWithin 0 1 := ⟨⟨cm_Bits_runsWithin, i_Bits, by decide, by decide, by decide +kernel⟩, zgd 598 (by decide +kernel) rfl, zgd 398 (by decide +kernel) rfl, zgd 399 (by decide +kernel) rfl, rfl⟩
theorem l_Work_60 : zLS RX8 60 m_JMath_max 2 := ⟨⟨cm_JMath_max, i_JMath, by decide, by decide, by decide +kernel⟩, zgd 599 (by decide +kernel) rfl, zgd 600 (by decide +kernel) rfl⟩
theorem l_Work_66 : zLV RX8 66 m_Bits_keepThoseOf 0 1 := ⟨⟨cm_Bits_keepThoseOf, i_Bits, by decide, by decide, by decide +kernel⟩, zgd 602 (by decide +kernel) rfl, zgd 603 (by decide +kernel) rfl, zgd 604 (by decide +kernel) rfl, rfl⟩
theorem l_Work_70 : zLV RX8 70 m_Bits_takeThoseOf 0 1 := ⟨⟨cm_Bits_takeThoseOf, i_Bits, by decide, by decide, by decide +kernel⟩, zgd 606 (by decide +kernel) rfl, zgd 607 (by decide +kernel) rfl, zgd 608 (by decide +kernel) rfl, rfl⟩
theorem l_Work_46 : zLV RX8 46 m_Work_ask 8 3 := ⟨⟨cm_Work_ask, i_Work, by decide, by decide, by decide +kernel⟩, zgd 610 (by decide +kernel) rfl, zgd 612 (by decide +kernel) rfl, zgd 20 (by decide +kernel) rfl, rfl⟩
theorem l_Work_76 : zLV RX8 76 m_Bits_becomeOnes 0 1 := ⟨⟨cm_Bits_becomeOnes, i_Bits, by decide, by decide, by decide +kernel⟩, zgd 614 (by decide +kernel) rfl, zgd 615 (by decide +kernel) rfl, zgd 616 (by decide +kernel) rfl, rfl⟩
theorem l_Work_79 : zLV RX8 79 m_Bits_becomeZeros 0 0 := ⟨⟨cm_Bits_becomeZeros, i_Bits, by decide, by decide, by decide +kernel⟩, zgd 618 (by decide +kernel) rfl, zgd 619 (by decide +kernel) rfl, zgd 620 (by decide +kernel) rfl, rfl⟩
theorem l_Bits_24 : zLV RX0 24 m_Bits_becomeOnes 0 1 := ⟨⟨cm_Bits_becomeOnes, i_Bits, by decide, by decide, by decide +kernel⟩, zgd 622 (by decide +kernel) rfl, zgd 615 (by decide +kernel) rfl, zgd 616 (by decide +kernel) rfl, rfl⟩
theorem l_Work_88 : zLV RX8 88 m_Rows_bitsOf 5 2 := ⟨⟨cm_Rows_bitsOf, i_Rows, by decide, by decide, by decide +kernel⟩, zgd 623 (by decide +kernel) rfl, zgd 339 (by decide +kernel) rfl, zgd 340 (by decide +kernel) rfl, rfl⟩
theorem l_Work_92 : zLV RX8 92 m_Rows_runsOfSlices 5 1 := ⟨⟨cm_Rows_runsOfSlices, i_Rows, by decide, by decide, by decide +kernel⟩, zgd 624 (by decide +kernel) rfl, zgd 625 (by decide +kernel) rfl, zgd 626 (by decide +kernel) rfl, rfl⟩
theorem l_Rows_53 : zLV RX5 53 m_Bits_runsWithin 0 1 := ⟨⟨cm_Bits_runsWithin, i_Bits, by decide, by decide, by decide +kernel⟩, zgd 628 (by decide +kernel) rfl, zgd 398 (by decide +kernel) rfl, zgd 399 (by decide +kernel) rfl, rfl⟩
theorem l_RC_159 : zLV RX9 159 m_Work_result 8 0 := ⟨⟨cm_Work_result, i_Work, by decide, by decide, by decide +kernel⟩, zgd 629 (by decide +kernel) rfl, zgd 630 (by decide +kernel) rfl, zgd 631 (by decide +kernel) rfl, rfl⟩
theorem l_RC_163 : zLV RX9 163 m_Bits_ones 0 0 := ⟨⟨cm_Bits_ones, i_Bits, by decide, by decide, by decide +kernel⟩, zgd 633 (by decide +kernel) rfl, zgd 634 (by decide +kernel) rfl, zgd 635 (by decide +kernel) rfl, rfl⟩
theorem l_RC_167 : zLV RX9 167 m_Work_cost 8 0 := ⟨⟨cm_Work_cost, i_Work, by decide, by decide, by decide +kernel⟩, zgd 637 (by decide +kernel) rfl, zgd 638 (by decide +kernel) rfl, zgd 639 (by decide +kernel) rfl, rfl⟩
theorem l_RC_170 : zLV RX9 170 m_Bits_placeOfOne 0 2 := ⟨⟨cm_Bits_placeOfOne, i_Bits, by decide, by decide, by decide +kernel⟩, zgd 641 (by decide +kernel) rfl, zgd 642 (by decide +kernel) rfl, zgd 643 (by decide +kernel) rfl, rfl⟩
theorem l_RC_173 : zLV RX9 173 m_Query_stepsBetween 3 2 := ⟨⟨cm_Query_stepsBetween, i_Query, by decide, by decide, by decide +kernel⟩, zgd 645 (by decide +kernel) rfl, zgd 646 (by decide +kernel) rfl, zgd 647 (by decide +kernel) rfl, rfl⟩
theorem l_RC_176 : zLV RX9 176 m_Work_depth 8 0 := ⟨⟨cm_Work_depth, i_Work, by decide, by decide, by decide +kernel⟩, zgd 649 (by decide +kernel) rfl, zgd 650 (by decide +kernel) rfl, zgd 651 (by decide +kernel) rfl, rfl⟩
theorem l_La_54 : zLV RL 54 m_RC_row 9 2 := ⟨⟨cm_RC_row, i_RC, by decide, by decide, by decide +kernel⟩, zgd 653 (by decide +kernel) rfl, zgd 654 (by decide +kernel) rfl, zgd 655 (by decide +kernel) rfl, rfl⟩
theorem l_RC_179 : zLV RX9 179 m_RC_resultOf 9 1 := ⟨⟨cm_RC_resultOf, i_RC, by decide, by decide, by decide +kernel⟩, zgd 657 (by decide +kernel) rfl, zgd 659 (by decide +kernel) rfl, zgd 21 (by decide +kernel) rfl, rfl⟩
theorem l_La_58 : zLV RL 58 m_RC_group 9 3 := ⟨⟨cm_RC_group, i_RC, by decide, by decide, by decide +kernel⟩, zgd 661 (by decide +kernel) rfl, zgd 662 (by decide +kernel) rfl, zgd 663 (by decide +kernel) rfl, rfl⟩
theorem l_RC_183 : zLV RX9 183 m_Groups_fill 1 3 := ⟨⟨cm_Groups_fill, i_Groups, by decide, by decide, by decide +kernel⟩, zgd 665 (by decide +kernel) rfl, zgd 666 (by decide +kernel) rfl, zgd 667 (by decide +kernel) rfl, rfl⟩
theorem l_Groups_26 : zLV RX1 26 m_Bits_become 0 1 := ⟨⟨cm_Bits_become, i_Bits, by decide, by decide, by decide +kernel⟩, zgd 669 (by decide +kernel) rfl, zgd 670 (by decide +kernel) rfl, zgd 671 (by decide +kernel) rfl, rfl⟩
theorem l_Groups_30 : zLV RX1 30 m_Rows_bitsOf 5 2 := ⟨⟨cm_Rows_bitsOf, i_Rows, by decide, by decide, by decide +kernel⟩, zgd 673 (by decide +kernel) rfl, zgd 339 (by decide +kernel) rfl, zgd 340 (by decide +kernel) rfl, rfl⟩
theorem l_Groups_36 : zLV RX1 36 m_Bits_keepThoseOf 0 1 := ⟨⟨cm_Bits_keepThoseOf, i_Bits, by decide, by decide, by decide +kernel⟩, zgd 674 (by decide +kernel) rfl, zgd 603 (by decide +kernel) rfl, zgd 604 (by decide +kernel) rfl, rfl⟩
theorem l_Groups_39 : zLV RX1 39 m_Bits_ones 0 0 := ⟨⟨cm_Bits_ones, i_Bits, by decide, by decide, by decide +kernel⟩, zgd 675 (by decide +kernel) rfl, zgd 634 (by decide +kernel) rfl, zgd 635 (by decide +kernel) rfl, rfl⟩
theorem l_La_62 : zLV RL 62 m_RC_edge 9 3 := ⟨⟨cm_RC_edge, i_RC, by decide, by decide, by decide +kernel⟩, zgd 676 (by decide +kernel) rfl, zgd 677 (by decide +kernel) rfl, zgd 678 (by decide +kernel) rfl, rfl⟩
theorem l_RC_190 : zLV RX9 190 m_Groups_least 1 0 := ⟨⟨cm_Groups_least, i_Groups, by decide, by decide, by decide +kernel⟩, zgd 680 (by decide +kernel) rfl, zgd 681 (by decide +kernel) rfl, zgd 682 (by decide +kernel) rfl, rfl⟩
theorem l_RC_193 : zLV RX9 193 m_Groups_greatest 1 0 := ⟨⟨cm_Groups_greatest, i_Groups, by decide, by decide, by decide +kernel⟩, zgd 684 (by decide +kernel) rfl, zgd 685 (by decide +kernel) rfl, zgd 686 (by decide +kernel) rfl, rfl⟩
theorem l_RC_196 : zLV RX9 196 m_Groups_middle 1 0 := ⟨⟨cm_Groups_middle, i_Groups, by decide, by decide, by decide +kernel⟩, zgd 688 (by decide +kernel) rfl, zgd 689 (by decide +kernel) rfl, zgd 690 (by decide +kernel) rfl, rfl⟩
theorem l_RC_199 : zLV RX9 199 m_Groups_unlike 1 0 := ⟨⟨cm_Groups_unlike, i_Groups, by decide, by decide, by decide +kernel⟩, zgd 692 (by decide +kernel) rfl, zgd 693 (by decide +kernel) rfl, zgd 694 (by decide +kernel) rfl, rfl⟩
theorem l_RC_202 : zLV RX9 202 m_Groups_greatestGroup 1 0 := ⟨⟨cm_Groups_greatestGroup, i_Groups, by decide, by decide, by decide +kernel⟩, zgd 696 (by decide +kernel) rfl, zgd 697 (by decide +kernel) rfl, zgd 698 (by decide +kernel) rfl, rfl⟩
theorem l_La_66 : zLV RL 66 m_RC_two 9 3 := ⟨⟨cm_RC_two, i_RC, by decide, by decide, by decide +kernel⟩, zgd 700 (by decide +kernel) rfl, zgd 701 (by decide +kernel) rfl, zgd 702 (by decide +kernel) rfl, rfl⟩
theorem l_RC_205 : zLV RX9 205 m_Bits_become 0 1 := ⟨⟨cm_Bits_become, i_Bits, by decide, by decide, by decide +kernel⟩, zgd 704 (by decide +kernel) rfl, zgd 670 (by decide +kernel) rfl, zgd 671 (by decide +kernel) rfl, rfl⟩
theorem l_RC_209 : zLV RX9 209 m_Bits_keepThoseOf 0 1 := ⟨⟨cm_Bits_keepThoseOf, i_Bits, by decide, by decide, by decide +kernel⟩, zgd 705 (by decide +kernel) rfl, zgd 603 (by decide +kernel) rfl, zgd 604 (by decide +kernel) rfl, rfl⟩
theorem l_La_70 : zLV RL 70 m_RC_see 9 2 := ⟨⟨cm_RC_see, i_RC, by decide, by decide, by decide +kernel⟩, zgd 706 (by decide +kernel) rfl, zgd 707 (by decide +kernel) rfl, zgd 708 (by decide +kernel) rfl, rfl⟩
theorem l_RC_219 : zLV RX9 219 m_Pairs_append 2 2 := ⟨⟨cm_Pairs_append, i_Pairs, by decide, by decide, by decide +kernel⟩, zgd 710 (by decide +kernel) rfl, zgd 711 (by decide +kernel) rfl, zgd 712 (by decide +kernel) rfl, rfl⟩
theorem l_La_75 : zLV RL 75 m_RC_bounds 9 2 := ⟨⟨cm_RC_bounds, i_RC, by decide, by decide, by decide +kernel⟩, zgd 714 (by decide +kernel) rfl, zgd 715 (by decide +kernel) rfl, zgd 716 (by decide +kernel) rfl, rfl⟩
theorem l_RC_221 : zLV RX9 221 m_State_isSeenBelow 6 2 := ⟨⟨cm_State_isSeenBelow, i_State, by decide, by decide, by decide +kernel⟩, zgd 718 (by decide +kernel) rfl, zgd 719 (by decide +kernel) rfl, zgd 720 (by decide +kernel) rfl, rfl⟩
theorem l_State_60 : zLV RX6 60 m_Rows_hasRow 5 1 := ⟨⟨cm_Rows_hasRow, i_Rows, by decide, by decide, by decide +kernel⟩, zgd 722 (by decide +kernel) rfl, zgd 351 (by decide +kernel) rfl, zgd 352 (by decide +kernel) rfl, rfl⟩
theorem l_State_64 : zLV RX6 64 m_Rows_valueOf 5 2 := ⟨⟨cm_Rows_valueOf, i_Rows, by decide, by decide, by decide +kernel⟩, zgd 723 (by decide +kernel) rfl, zgd 358 (by decide +kernel) rfl, zgd 359 (by decide +kernel) rfl, rfl⟩
theorem l_La_79 : zLV RL 79 m_RC_odds 9 2 := ⟨⟨cm_RC_odds, i_RC, by decide, by decide, by decide +kernel⟩, zgd 724 (by decide +kernel) rfl, zgd 725 (by decide +kernel) rfl, zgd 726 (by decide +kernel) rfl, rfl⟩
theorem l_RC_225 : zLS RX9 225 m_RC_isPart 1 := ⟨⟨cm_RC_isPart, i_RC, by decide, by decide, by decide +kernel⟩, zgd 728 (by decide +kernel) rfl, zgd 729 (by decide +kernel) rfl⟩
theorem l_RC_230 : zLS RX9 230 m_RC_inLowestTerms 3 := ⟨⟨cm_RC_inLowestTerms, i_RC, by decide, by decide, by decide +kernel⟩, zgd 732 (by decide +kernel) rfl, zgd 733 (by decide +kernel) rfl⟩
theorem l_RC_295 : zLS RX9 295 m_RC_greatestDivisor 2 := ⟨⟨cm_RC_greatestDivisor, i_RC, by decide, by decide, by decide +kernel⟩, zgd 735 (by decide +kernel) rfl, zgd 736 (by decide +kernel) rfl⟩
theorem l_La_84 : zLV RL 84 m_RC_mean 9 3 := ⟨⟨cm_RC_mean, i_RC, by decide, by decide, by decide +kernel⟩, zgd 738 (by decide +kernel) rfl, zgd 739 (by decide +kernel) rfl, zgd 740 (by decide +kernel) rfl, rfl⟩
theorem l_RC_234 : zLV RX9 234 m_Groups_sum 1 0 := ⟨⟨cm_Groups_sum, i_Groups, by decide, by decide, by decide +kernel⟩, zgd 742 (by decide +kernel) rfl, zgd 743 (by decide +kernel) rfl, zgd 744 (by decide +kernel) rfl, rfl⟩
theorem l_La_89 : zLV RL 89 m_RC_plan 9 2 := ⟨⟨cm_RC_plan, i_RC, by decide, by decide, by decide +kernel⟩, zgd 746 (by decide +kernel) rfl, zgd 747 (by decide +kernel) rfl, zgd 748 (by decide +kernel) rfl, rfl⟩
theorem l_La_93 : zLV RL 93 m_RC_ends 9 2 := ⟨⟨cm_RC_ends, i_RC, by decide, by decide, by decide +kernel⟩, zgd 750 (by decide +kernel) rfl, zgd 751 (by decide +kernel) rfl, zgd 752 (by decide +kernel) rfl, rfl⟩
theorem l_RC_243 : zLV RX9 243 m_State_tryPlan 6 1 := ⟨⟨cm_State_tryPlan, i_State, by decide, by decide, by decide +kernel⟩, zgd 754 (by decide +kernel) rfl, zgd 755 (by decide +kernel) rfl, zgd 756 (by decide +kernel) rfl, rfl⟩
theorem l_State_41 : zLV RX6 41 m_Rows_become 5 1 := ⟨⟨cm_Rows_become, i_Rows, by decide, by decide, by decide +kernel⟩, zgd 758 (by decide +kernel) rfl, zgd 759 (by decide +kernel) rfl, zgd 760 (by decide +kernel) rfl, rfl⟩
theorem l_Rows_49 : zLV RX5 49 m_Bits_become 0 1 := ⟨⟨cm_Bits_become, i_Bits, by decide, by decide, by decide +kernel⟩, zgd 762 (by decide +kernel) rfl, zgd 670 (by decide +kernel) rfl, zgd 671 (by decide +kernel) rfl, rfl⟩
theorem l_State_71 : zLV RX6 71 m_State_tryStep 6 3 := ⟨⟨cm_State_tryStep, i_State, by decide, by decide, by decide +kernel⟩, zgd 763 (by decide +kernel) rfl, zgd 765 (by decide +kernel) rfl, zgd 22 (by decide +kernel) rfl, rfl⟩
theorem l_State_76 : zLV RX6 76 m_Rows_cutTo 5 1 := ⟨⟨cm_Rows_cutTo, i_Rows, by decide, by decide, by decide +kernel⟩, zgd 767 (by decide +kernel) rfl, zgd 378 (by decide +kernel) rfl, zgd 379 (by decide +kernel) rfl, rfl⟩
theorem l_State_79 : zLV RX6 79 m_Rows_isFull 5 0 := ⟨⟨cm_Rows_isFull, i_Rows, by decide, by decide, by decide +kernel⟩, zgd 768 (by decide +kernel) rfl, zgd 327 (by decide +kernel) rfl, zgd 328 (by decide +kernel) rfl, rfl⟩
theorem l_State_83 : zLV RX6 83 m_Rows_appendLike 5 1 := ⟨⟨cm_Rows_appendLike, i_Rows, by decide, by decide, by decide +kernel⟩, zgd 769 (by decide +kernel) rfl, zgd 770 (by decide +kernel) rfl, zgd 771 (by decide +kernel) rfl, rfl⟩
theorem l_Rows_34 : zLV RX5 34 m_Rows_valueOf 5 2 := ⟨⟨cm_Rows_valueOf, i_Rows, by decide, by decide, by decide +kernel⟩, zgd 773 (by decide +kernel) rfl, zgd 358 (by decide +kernel) rfl, zgd 359 (by decide +kernel) rfl, rfl⟩
theorem l_Rows_38 : zLV RX5 38 m_Rows_append 5 4 := ⟨⟨cm_Rows_append, i_Rows, by decide, by decide, by decide +kernel⟩, zgd 774 (by decide +kernel) rfl, zgd 331 (by decide +kernel) rfl, zgd 332 (by decide +kernel) rfl, rfl⟩
theorem l_State_86 : zLV RX6 86 m_State_hasMark 6 1 := ⟨⟨cm_State_hasMark, i_State, by decide, by decide, by decide +kernel⟩, zgd 775 (by decide +kernel) rfl, zgd 374 (by decide +kernel) rfl, zgd 375 (by decide +kernel) rfl, rfl⟩
theorem l_La_97 : zLV RL 97 m_RC_book 9 2 := ⟨⟨cm_RC_book, i_RC, by decide, by decide, by decide +kernel⟩, zgd 776 (by decide +kernel) rfl, zgd 777 (by decide +kernel) rfl, zgd 778 (by decide +kernel) rfl, rfl⟩
theorem l_La_101 : zLV RL 101 m_RC_looked 9 0 := ⟨⟨cm_RC_looked, i_RC, by decide, by decide, by decide +kernel⟩, zgd 780 (by decide +kernel) rfl, zgd 781 (by decide +kernel) rfl, zgd 782 (by decide +kernel) rfl, rfl⟩
theorem l_La_105 : zLV RL 105 m_RC_judge 9 3 := ⟨⟨cm_RC_judge, i_RC, by decide, by decide, by decide +kernel⟩, zgd 784 (by decide +kernel) rfl, zgd 785 (by decide +kernel) rfl, zgd 786 (by decide +kernel) rfl, rfl⟩
theorem l_RC_256 : zLS RX9 256 m_RC_isTape 1 := ⟨⟨cm_RC_isTape, i_RC, by decide, by decide, by decide +kernel⟩, zgd 788 (by decide +kernel) rfl, zgd 789 (by decide +kernel) rfl⟩
theorem l_RC_259 : zLV RX9 259 m_Tape_isNothing 7 0 := ⟨⟨cm_Tape_isNothing, i_Tape, by decide, by decide, by decide +kernel⟩, zgd 791 (by decide +kernel) rfl, zgd 792 (by decide +kernel) rfl, zgd 793 (by decide +kernel) rfl, rfl⟩
theorem l_La_109 : zLV RL 109 m_RC_image 9 0 := ⟨⟨cm_RC_image, i_RC, by decide, by decide, by decide +kernel⟩, zgd 795 (by decide +kernel) rfl, zgd 796 (by decide +kernel) rfl, zgd 797 (by decide +kernel) rfl, rfl⟩
theorem l_RC_270 : zLV RX9 270 m_State_become 6 1 := ⟨⟨cm_State_become, i_State, by decide, by decide, by decide +kernel⟩, zgd 799 (by decide +kernel) rfl, zgd 800 (by decide +kernel) rfl, zgd 801 (by decide +kernel) rfl, rfl⟩
theorem l_State_51 : zLV RX6 51 m_Pairs_become 2 1 := ⟨⟨cm_Pairs_become, i_Pairs, by decide, by decide, by decide +kernel⟩, zgd 806 (by decide +kernel) rfl, zgd 807 (by decide +kernel) rfl, zgd 808 (by decide +kernel) rfl, rfl⟩
theorem l_La_113 : zLV RL 113 m_RC_undo 9 0 := ⟨⟨cm_RC_undo, i_RC, by decide, by decide, by decide +kernel⟩, zgd 811 (by decide +kernel) rfl, zgd 812 (by decide +kernel) rfl, zgd 813 (by decide +kernel) rfl, rfl⟩
theorem l_La_117 : zLV RL 117 m_RC_taken 9 2 := ⟨⟨cm_RC_taken, i_RC, by decide, by decide, by decide +kernel⟩, zgd 815 (by decide +kernel) rfl, zgd 816 (by decide +kernel) rfl, zgd 817 (by decide +kernel) rfl, rfl⟩
theorem l_RC_273 : zLV RX9 273 m_Query_lastSort 3 0 := ⟨⟨cm_Query_lastSort, i_Query, by decide, by decide, by decide +kernel⟩, zgd 819 (by decide +kernel) rfl, zgd 820 (by decide +kernel) rfl, zgd 821 (by decide +kernel) rfl, rfl⟩
theorem l_La_121 : zLV RL 121 m_RC_count 9 1 := ⟨⟨cm_RC_count, i_RC, by decide, by decide, by decide +kernel⟩, zgd 823 (by decide +kernel) rfl, zgd 824 (by decide +kernel) rfl, zgd 825 (by decide +kernel) rfl, rfl⟩
theorem l_La_125 : zLV RL 125 m_RC_tape 9 3 := ⟨⟨cm_RC_tape, i_RC, by decide, by decide, by decide +kernel⟩, zgd 827 (by decide +kernel) rfl, zgd 828 (by decide +kernel) rfl, zgd 829 (by decide +kernel) rfl, rfl⟩
theorem l_RC_276 : zLV RX9 276 m_Tape_become 7 2 := ⟨⟨cm_Tape_become, i_Tape, by decide, by decide, by decide +kernel⟩, zgd 831 (by decide +kernel) rfl, zgd 832 (by decide +kernel) rfl, zgd 833 (by decide +kernel) rfl, rfl⟩
theorem l_Tape_22 : zLS RX7 22 m_JArr_fill 2 := ⟨⟨cm_JArr_fill, i_JArr, by decide, by decide, by decide +kernel⟩, zgd 835 (by decide +kernel) rfl, zgd 836 (by decide +kernel) rfl⟩
theorem l_La_131 : zLV RL 131 m_RC_item 9 3 := ⟨⟨cm_RC_item, i_RC, by decide, by decide, by decide +kernel⟩, zgd 838 (by decide +kernel) rfl, zgd 839 (by decide +kernel) rfl, zgd 840 (by decide +kernel) rfl, rfl⟩
theorem l_RC_279 : zLV RX9 279 m_Tape_hasItem 7 1 := ⟨⟨cm_Tape_hasItem, i_Tape, by decide, by decide, by decide +kernel⟩, zgd 842 (by decide +kernel) rfl, zgd 843 (by decide +kernel) rfl, zgd 844 (by decide +kernel) rfl, rfl⟩
theorem l_RC_282 : zLV RX9 282 m_Tape_put 7 2 := ⟨⟨cm_Tape_put, i_Tape, by decide, by decide, by decide +kernel⟩, zgd 846 (by decide +kernel) rfl, zgd 847 (by decide +kernel) rfl, zgd 848 (by decide +kernel) rfl, rfl⟩
theorem l_La_136 : zLV RL 136 m_RC_read 9 2 := ⟨⟨cm_RC_read, i_RC, by decide, by decide, by decide +kernel⟩, zgd 850 (by decide +kernel) rfl, zgd 851 (by decide +kernel) rfl, zgd 852 (by decide +kernel) rfl, rfl⟩
theorem l_La_140 : zLV RL 140 m_RC_shift 9 5 := ⟨⟨cm_RC_shift, i_RC, by decide, by decide, by decide +kernel⟩, zgd 854 (by decide +kernel) rfl, zgd 855 (by decide +kernel) rfl, zgd 856 (by decide +kernel) rfl, rfl⟩
theorem l_RC_286 : zLV RX9 286 m_Tape_hasStretch 7 2 := ⟨⟨cm_Tape_hasStretch, i_Tape, by decide, by decide, by decide +kernel⟩, zgd 858 (by decide +kernel) rfl, zgd 859 (by decide +kernel) rfl, zgd 860 (by decide +kernel) rfl, rfl⟩
theorem l_La_12 : zLI RL 12 m_Mo_init 0 := ⟨⟨cm_Mo_init, i_Mo, by decide, by decide, by decide +kernel⟩, Or.inl (zgd 865 (by decide +kernel) rfl), zgd 866 (by decide +kernel) rfl, rfl, rfl⟩
theorem l_La_17 : zLV RL 17 m_Mo_add 10 4 := ⟨⟨cm_Mo_add, i_Mo, by decide, by decide, by decide +kernel⟩, zgd 941 (by decide +kernel) rfl, zgd 942 (by decide +kernel) rfl, zgd 943 (by decide +kernel) rfl, rfl⟩
theorem l_Mo_63 : zLS RX10 63 m_Mo_in 3 := ⟨⟨cm_Mo_in, i_Mo, by decide, by decide, by decide +kernel⟩, zgd 945 (by decide +kernel) rfl, zgd 946 (by decide +kernel) rfl⟩
theorem l_Mo_67 : zLV RX10 67 m_Mo_comes 10 4 := ⟨⟨cm_Mo_comes, i_Mo, by decide, by decide, by decide +kernel⟩, zgd 948 (by decide +kernel) rfl, zgd 950 (by decide +kernel) rfl, zgd 23 (by decide +kernel) rfl, rfl⟩
theorem l_La_22 : zLV RL 22 m_Mo_at 10 2 := ⟨⟨cm_Mo_at, i_Mo, by decide, by decide, by decide +kernel⟩, zgd 952 (by decide +kernel) rfl, zgd 953 (by decide +kernel) rfl, zgd 954 (by decide +kernel) rfl, rfl⟩
theorem l_Mo_71 : zLV RX10 71 m_Mo_isRow 10 1 := ⟨⟨cm_Mo_isRow, i_Mo, by decide, by decide, by decide +kernel⟩, zgd 956 (by decide +kernel) rfl, zgd 958 (by decide +kernel) rfl, zgd 24 (by decide +kernel) rfl, rfl⟩
theorem l_La_27 : zLV RL 27 m_Mo_mark 10 0 := ⟨⟨cm_Mo_mark, i_Mo, by decide, by decide, by decide +kernel⟩, zgd 960 (by decide +kernel) rfl, zgd 961 (by decide +kernel) rfl, zgd 962 (by decide +kernel) rfl, rfl⟩
theorem l_La_32 : zLV RL 32 m_Mo_back 10 1 := ⟨⟨cm_Mo_back, i_Mo, by decide, by decide, by decide +kernel⟩, zgd 964 (by decide +kernel) rfl, zgd 965 (by decide +kernel) rfl, zgd 966 (by decide +kernel) rfl, rfl⟩
theorem l_La_36 : zLV RL 36 m_Mo_runs 10 2 := ⟨⟨cm_Mo_runs, i_Mo, by decide, by decide, by decide +kernel⟩, zgd 968 (by decide +kernel) rfl, zgd 969 (by decide +kernel) rfl, zgd 970 (by decide +kernel) rfl, rfl⟩
theorem l_Mo_78 : zLV RX10 78 m_Mo_runsOf 10 2 := ⟨⟨cm_Mo_runsOf, i_Mo, by decide, by decide, by decide +kernel⟩, zgd 972 (by decide +kernel) rfl, zgd 974 (by decide +kernel) rfl, zgd 25 (by decide +kernel) rfl, rfl⟩
theorem l_Mo_75 : zLV RX10 75 m_Mo_bit 10 3 := ⟨⟨cm_Mo_bit, i_Mo, by decide, by decide, by decide +kernel⟩, zgd 976 (by decide +kernel) rfl, zgd 978 (by decide +kernel) rfl, zgd 26 (by decide +kernel) rfl, rfl⟩
theorem l_La_41 : zLV RL 41 m_Mo_run 10 3 := ⟨⟨cm_Mo_run, i_Mo, by decide, by decide, by decide +kernel⟩, zgd 980 (by decide +kernel) rfl, zgd 981 (by decide +kernel) rfl, zgd 982 (by decide +kernel) rfl, rfl⟩
theorem l_Mo_82 : zLV RX10 82 m_Mo_isOnes 10 3 := ⟨⟨cm_Mo_isOnes, i_Mo, by decide, by decide, by decide +kernel⟩, zgd 984 (by decide +kernel) rfl, zgd 986 (by decide +kernel) rfl, zgd 27 (by decide +kernel) rfl, rfl⟩
theorem l_La_45 : zLV RL 45 m_Mo_feed 10 1 := ⟨⟨cm_Mo_feed, i_Mo, by decide, by decide, by decide +kernel⟩, zgd 988 (by decide +kernel) rfl, zgd 989 (by decide +kernel) rfl, zgd 990 (by decide +kernel) rfl, rfl⟩
theorem l_La_49 : zLV RL 49 m_Mo_query 10 0 := ⟨⟨cm_Mo_query, i_Mo, by decide, by decide, by decide +kernel⟩, zgd 992 (by decide +kernel) rfl, zgd 993 (by decide +kernel) rfl, zgd 994 (by decide +kernel) rfl, rfl⟩
theorem l_Mo_131 : zLV RX10 131 m_Mo_either 10 1 := ⟨⟨cm_Mo_either, i_Mo, by decide, by decide, by decide +kernel⟩, zgd 996 (by decide +kernel) rfl, zgd 998 (by decide +kernel) rfl, zgd 28 (by decide +kernel) rfl, rfl⟩
theorem l_Mo_143 : zLV RX10 143 m_Mo_both 10 1 := ⟨⟨cm_Mo_both, i_Mo, by decide, by decide, by decide +kernel⟩, zgd 1000 (by decide +kernel) rfl, zgd 1002 (by decide +kernel) rfl, zgd 29 (by decide +kernel) rfl, rfl⟩
theorem l_Mo_134 : zLV RX10 134 m_Mo_factor 10 1 := ⟨⟨cm_Mo_factor, i_Mo, by decide, by decide, by decide +kernel⟩, zgd 1004 (by decide +kernel) rfl, zgd 1006 (by decide +kernel) rfl, zgd 30 (by decide +kernel) rfl, rfl⟩
theorem l_Mo_95 : zLV RX10 95 m_Mo_signAt 10 1 := ⟨⟨cm_Mo_signAt, i_Mo, by decide, by decide, by decide +kernel⟩, zgd 1008 (by decide +kernel) rfl, zgd 1010 (by decide +kernel) rfl, zgd 31 (by decide +kernel) rfl, rfl⟩
theorem l_Mo_99 : zLV RX10 99 m_Mo_wrong 10 1 := ⟨⟨cm_Mo_wrong, i_Mo, by decide, by decide, by decide +kernel⟩, zgd 1012 (by decide +kernel) rfl, zgd 1014 (by decide +kernel) rfl, zgd 32 (by decide +kernel) rfl, rfl⟩
theorem l_Mo_117 : zLV RX10 117 m_Mo_must 10 1 := ⟨⟨cm_Mo_must, i_Mo, by decide, by decide, by decide +kernel⟩, zgd 1016 (by decide +kernel) rfl, zgd 1018 (by decide +kernel) rfl, zgd 33 (by decide +kernel) rfl, rfl⟩
theorem l_Mo_120 : zLV RX10 120 m_Mo_word 10 0 := ⟨⟨cm_Mo_word, i_Mo, by decide, by decide, by decide +kernel⟩, zgd 1020 (by decide +kernel) rfl, zgd 1022 (by decide +kernel) rfl, zgd 34 (by decide +kernel) rfl, rfl⟩
theorem l_Mo_103 : zLV RX10 103 m_Mo_wordEnd 10 0 := ⟨⟨cm_Mo_wordEnd, i_Mo, by decide, by decide, by decide +kernel⟩, zgd 1024 (by decide +kernel) rfl, zgd 1026 (by decide +kernel) rfl, zgd 35 (by decide +kernel) rfl, rfl⟩
theorem l_Mo_127 : zLV RX10 127 m_Mo_node 10 6 := ⟨⟨cm_Mo_node, i_Mo, by decide, by decide, by decide +kernel⟩, zgd 1029 (by decide +kernel) rfl, zgd 1031 (by decide +kernel) rfl, zgd 36 (by decide +kernel) rfl, rfl⟩
theorem l_Mo_137 : zLV RX10 137 m_Mo_columnHere 10 1 := ⟨⟨cm_Mo_columnHere, i_Mo, by decide, by decide, by decide +kernel⟩, zgd 1033 (by decide +kernel) rfl, zgd 1035 (by decide +kernel) rfl, zgd 37 (by decide +kernel) rfl, rfl⟩
theorem l_Mo_124 : zLV RX10 124 m_Mo_value 10 0 := ⟨⟨cm_Mo_value, i_Mo, by decide, by decide, by decide +kernel⟩, zgd 1038 (by decide +kernel) rfl, zgd 1040 (by decide +kernel) rfl, zgd 38 (by decide +kernel) rfl, rfl⟩
theorem l_Mo_140 : zLV RX10 140 m_Mo_follows 10 1 := ⟨⟨cm_Mo_follows, i_Mo, by decide, by decide, by decide +kernel⟩, zgd 1042 (by decide +kernel) rfl, zgd 1044 (by decide +kernel) rfl, zgd 39 (by decide +kernel) rfl, rfl⟩
theorem l_La_53 : zLV RL 53 m_Mo_of 10 2 := ⟨⟨cm_Mo_of, i_Mo, by decide, by decide, by decide +kernel⟩, zgd 1046 (by decide +kernel) rfl, zgd 1047 (by decide +kernel) rfl, zgd 1048 (by decide +kernel) rfl, rfl⟩
theorem l_Mo_163 : zLV RX10 163 m_Mo_isQuery 10 1 := ⟨⟨cm_Mo_isQuery, i_Mo, by decide, by decide, by decide +kernel⟩, zgd 1050 (by decide +kernel) rfl, zgd 1052 (by decide +kernel) rfl, zgd 40 (by decide +kernel) rfl, rfl⟩
theorem l_Mo_166 : zLV RX10 166 m_Mo_resultMany 10 1 := ⟨⟨cm_Mo_resultMany, i_Mo, by decide, by decide, by decide +kernel⟩, zgd 1054 (by decide +kernel) rfl, zgd 1056 (by decide +kernel) rfl, zgd 41 (by decide +kernel) rfl, rfl⟩
theorem l_Mo_146 : zLV RX10 146 m_Mo_isSo 10 2 := ⟨⟨cm_Mo_isSo, i_Mo, by decide, by decide, by decide +kernel⟩, zgd 1058 (by decide +kernel) rfl, zgd 1060 (by decide +kernel) rfl, zgd 42 (by decide +kernel) rfl, rfl⟩
theorem l_Mo_153 : zLV RX10 153 m_Mo_resultRuns 10 1 := ⟨⟨cm_Mo_resultRuns, i_Mo, by decide, by decide, by decide +kernel⟩, zgd 1062 (by decide +kernel) rfl, zgd 1064 (by decide +kernel) rfl, zgd 43 (by decide +kernel) rfl, rfl⟩
theorem l_Mo_150 : zLV RX10 150 m_Mo_cost 10 1 := ⟨⟨cm_Mo_cost, i_Mo, by decide, by decide, by decide +kernel⟩, zgd 1066 (by decide +kernel) rfl, zgd 1068 (by decide +kernel) rfl, zgd 44 (by decide +kernel) rfl, rfl⟩
theorem l_Mo_169 : zLV RX10 169 m_Mo_rowAt 10 2 := ⟨⟨cm_Mo_rowAt, i_Mo, by decide, by decide, by decide +kernel⟩, zgd 1070 (by decide +kernel) rfl, zgd 1072 (by decide +kernel) rfl, zgd 45 (by decide +kernel) rfl, rfl⟩
theorem l_Mo_156 : zLV RX10 156 m_Mo_sortsIn 10 2 := ⟨⟨cm_Mo_sortsIn, i_Mo, by decide, by decide, by decide +kernel⟩, zgd 1074 (by decide +kernel) rfl, zgd 1076 (by decide +kernel) rfl, zgd 46 (by decide +kernel) rfl, rfl⟩
theorem l_Mo_160 : zLV RX10 160 m_Mo_deepOf 10 1 := ⟨⟨cm_Mo_deepOf, i_Mo, by decide, by decide, by decide +kernel⟩, zgd 1078 (by decide +kernel) rfl, zgd 1080 (by decide +kernel) rfl, zgd 47 (by decide +kernel) rfl, rfl⟩
theorem l_La_57 : zLV RL 57 m_Mo_row 10 2 := ⟨⟨cm_Mo_row, i_Mo, by decide, by decide, by decide +kernel⟩, zgd 1082 (by decide +kernel) rfl, zgd 1083 (by decide +kernel) rfl, zgd 1084 (by decide +kernel) rfl, rfl⟩
theorem l_La_61 : zLV RL 61 m_Mo_group 10 3 := ⟨⟨cm_Mo_group, i_Mo, by decide, by decide, by decide +kernel⟩, zgd 1086 (by decide +kernel) rfl, zgd 1087 (by decide +kernel) rfl, zgd 1088 (by decide +kernel) rfl, rfl⟩
theorem l_Mo_172 : zLV RX10 172 m_Mo_grouped 10 2 := ⟨⟨cm_Mo_grouped, i_Mo, by decide, by decide, by decide +kernel⟩, zgd 1090 (by decide +kernel) rfl, zgd 1092 (by decide +kernel) rfl, zgd 48 (by decide +kernel) rfl, rfl⟩
theorem l_La_65 : zLV RL 65 m_Mo_edge 10 3 := ⟨⟨cm_Mo_edge, i_Mo, by decide, by decide, by decide +kernel⟩, zgd 1094 (by decide +kernel) rfl, zgd 1095 (by decide +kernel) rfl, zgd 1096 (by decide +kernel) rfl, rfl⟩
theorem l_La_69 : zLV RL 69 m_Mo_two 10 3 := ⟨⟨cm_Mo_two, i_Mo, by decide, by decide, by decide +kernel⟩, zgd 1098 (by decide +kernel) rfl, zgd 1099 (by decide +kernel) rfl, zgd 1100 (by decide +kernel) rfl, rfl⟩
theorem l_La_74 : zLV RL 74 m_Mo_see 10 2 := ⟨⟨cm_Mo_see, i_Mo, by decide, by decide, by decide +kernel⟩, zgd 1102 (by decide +kernel) rfl, zgd 1103 (by decide +kernel) rfl, zgd 1104 (by decide +kernel) rfl, rfl⟩
theorem l_La_78 : zLV RL 78 m_Mo_bounds 10 2 := ⟨⟨cm_Mo_bounds, i_Mo, by decide, by decide, by decide +kernel⟩, zgd 1106 (by decide +kernel) rfl, zgd 1107 (by decide +kernel) rfl, zgd 1108 (by decide +kernel) rfl, rfl⟩
theorem l_Mo_176 : zLV RX10 176 m_Mo_isSeen 10 2 := ⟨⟨cm_Mo_isSeen, i_Mo, by decide, by decide, by decide +kernel⟩, zgd 1110 (by decide +kernel) rfl, zgd 1112 (by decide +kernel) rfl, zgd 49 (by decide +kernel) rfl, rfl⟩
theorem l_La_83 : zLV RL 83 m_Mo_odds 10 2 := ⟨⟨cm_Mo_odds, i_Mo, by decide, by decide, by decide +kernel⟩, zgd 1114 (by decide +kernel) rfl, zgd 1115 (by decide +kernel) rfl, zgd 1116 (by decide +kernel) rfl, rfl⟩
theorem l_Mo_184 : zLS RX10 184 m_Mo_part 3 := ⟨⟨cm_Mo_part, i_Mo, by decide, by decide, by decide +kernel⟩, zgd 1119 (by decide +kernel) rfl, zgd 1120 (by decide +kernel) rfl⟩
theorem l_Mo_179 : zLS RX10 179 m_Mo_common 2 := ⟨⟨cm_Mo_common, i_Mo, by decide, by decide, by decide +kernel⟩, zgd 1122 (by decide +kernel) rfl, zgd 1123 (by decide +kernel) rfl⟩
theorem l_La_88 : zLV RL 88 m_Mo_mean 10 3 := ⟨⟨cm_Mo_mean, i_Mo, by decide, by decide, by decide +kernel⟩, zgd 1125 (by decide +kernel) rfl, zgd 1126 (by decide +kernel) rfl, zgd 1127 (by decide +kernel) rfl, rfl⟩
theorem l_La_92 : zLV RL 92 m_Mo_plan 10 2 := ⟨⟨cm_Mo_plan, i_Mo, by decide, by decide, by decide +kernel⟩, zgd 1129 (by decide +kernel) rfl, zgd 1130 (by decide +kernel) rfl, zgd 1131 (by decide +kernel) rfl, rfl⟩
theorem l_La_96 : zLV RL 96 m_Mo_ends 10 2 := ⟨⟨cm_Mo_ends, i_Mo, by decide, by decide, by decide +kernel⟩, zgd 1133 (by decide +kernel) rfl, zgd 1134 (by decide +kernel) rfl, zgd 1135 (by decide +kernel) rfl, rfl⟩
theorem l_Mo_188 : zLS RX10 188 m_Mo_copy 2 := ⟨⟨cm_Mo_copy, i_Mo, by decide, by decide, by decide +kernel⟩, zgd 1137 (by decide +kernel) rfl, zgd 1138 (by decide +kernel) rfl⟩
theorem l_Mo_192 : zLV RX10 192 m_Mo_does 10 2 := ⟨⟨cm_Mo_does, i_Mo, by decide, by decide, by decide +kernel⟩, zgd 1140 (by decide +kernel) rfl, zgd 1142 (by decide +kernel) rfl, zgd 50 (by decide +kernel) rfl, rfl⟩
theorem l_La_100 : zLV RL 100 m_Mo_book 10 2 := ⟨⟨cm_Mo_book, i_Mo, by decide, by decide, by decide +kernel⟩, zgd 1144 (by decide +kernel) rfl, zgd 1145 (by decide +kernel) rfl, zgd 1146 (by decide +kernel) rfl, rfl⟩
theorem l_La_104 : zLV RL 104 m_Mo_looked 10 0 := ⟨⟨cm_Mo_looked, i_Mo, by decide, by decide, by decide +kernel⟩, zgd 1148 (by decide +kernel) rfl, zgd 1149 (by decide +kernel) rfl, zgd 1150 (by decide +kernel) rfl, rfl⟩
theorem l_La_108 : zLV RL 108 m_Mo_judge 10 3 := ⟨⟨cm_Mo_judge, i_Mo, by decide, by decide, by decide +kernel⟩, zgd 1152 (by decide +kernel) rfl, zgd 1153 (by decide +kernel) rfl, zgd 1154 (by decide +kernel) rfl, rfl⟩
theorem l_Mo_195 : zLS RX10 195 m_Mo_isTape 1 := ⟨⟨cm_Mo_isTape, i_Mo, by decide, by decide, by decide +kernel⟩, zgd 1156 (by decide +kernel) rfl, zgd 1157 (by decide +kernel) rfl⟩
theorem l_La_112 : zLV RL 112 m_Mo_image 10 0 := ⟨⟨cm_Mo_image, i_Mo, by decide, by decide, by decide +kernel⟩, zgd 1159 (by decide +kernel) rfl, zgd 1160 (by decide +kernel) rfl, zgd 1161 (by decide +kernel) rfl, rfl⟩
theorem l_La_116 : zLV RL 116 m_Mo_undo 10 0 := ⟨⟨cm_Mo_undo, i_Mo, by decide, by decide, by decide +kernel⟩, zgd 1163 (by decide +kernel) rfl, zgd 1164 (by decide +kernel) rfl, zgd 1165 (by decide +kernel) rfl, rfl⟩
theorem l_La_120 : zLV RL 120 m_Mo_taken 10 2 := ⟨⟨cm_Mo_taken, i_Mo, by decide, by decide, by decide +kernel⟩, zgd 1167 (by decide +kernel) rfl, zgd 1168 (by decide +kernel) rfl, zgd 1169 (by decide +kernel) rfl, rfl⟩
theorem l_La_124 : zLV RL 124 m_Mo_count 10 1 := ⟨⟨cm_Mo_count, i_Mo, by decide, by decide, by decide +kernel⟩, zgd 1171 (by decide +kernel) rfl, zgd 1172 (by decide +kernel) rfl, zgd 1173 (by decide +kernel) rfl, rfl⟩
theorem l_La_128 : zLV RL 128 m_Mo_tape 10 3 := ⟨⟨cm_Mo_tape, i_Mo, by decide, by decide, by decide +kernel⟩, zgd 1175 (by decide +kernel) rfl, zgd 1176 (by decide +kernel) rfl, zgd 1177 (by decide +kernel) rfl, rfl⟩
theorem l_La_135 : zLV RL 135 m_Mo_item 10 3 := ⟨⟨cm_Mo_item, i_Mo, by decide, by decide, by decide +kernel⟩, zgd 1179 (by decide +kernel) rfl, zgd 1180 (by decide +kernel) rfl, zgd 1181 (by decide +kernel) rfl, rfl⟩
theorem l_Mo_202 : zLS RX10 202 m_Mo_fit 2 := ⟨⟨cm_Mo_fit, i_Mo, by decide, by decide, by decide +kernel⟩, zgd 1183 (by decide +kernel) rfl, zgd 1184 (by decide +kernel) rfl⟩
theorem l_La_139 : zLV RL 139 m_Mo_read 10 2 := ⟨⟨cm_Mo_read, i_Mo, by decide, by decide, by decide +kernel⟩, zgd 1186 (by decide +kernel) rfl, zgd 1187 (by decide +kernel) rfl, zgd 1188 (by decide +kernel) rfl, rfl⟩
theorem l_La_144 : zLV RL 144 m_Mo_shift 10 5 := ⟨⟨cm_Mo_shift, i_Mo, by decide, by decide, by decide +kernel⟩, zgd 1190 (by decide +kernel) rfl, zgd 1191 (by decide +kernel) rfl, zgd 1192 (by decide +kernel) rfl, rfl⟩
theorem l_RC_13 : zLI RX9 13 m_State_init 0 := ⟨⟨cm_State_init, i_State, by decide, by decide, by decide +kernel⟩, Or.inr ⟨"RunColumns", List.mem_of_getElem? (i := 81) (by decide +kernel)⟩, zgd 82 (by decide +kernel) rfl, rfl, rfl⟩
theorem l_Rows_21 : zLI RX5 21 m_Bits_init 0 := ⟨⟨cm_Bits_init, i_Bits, by decide, by decide, by decide +kernel⟩, Or.inr ⟨"RunColumns", List.mem_of_getElem? (i := 94) (by decide +kernel)⟩, zgd 95 (by decide +kernel) rfl, rfl, rfl⟩
theorem l_RC_27 : zLI RX9 27 m_Reader_init 0 := ⟨⟨cm_Reader_init, i_Reader, by decide, by decide, by decide +kernel⟩, Or.inr ⟨"RunColumns", List.mem_of_getElem? (i := 168) (by decide +kernel)⟩, zgd 169 (by decide +kernel) rfl, rfl, rfl⟩
theorem l_Work_28 : zLI RX8 28 m_Bits_init 0 := ⟨⟨cm_Bits_init, i_Bits, by decide, by decide, by decide +kernel⟩, Or.inr ⟨"RunColumns", List.mem_of_getElem? (i := 198) (by decide +kernel)⟩, zgd 95 (by decide +kernel) rfl, rfl, rfl⟩
theorem l_RC_60 : zLI RX9 60 m_Bits_init 0 := ⟨⟨cm_Bits_init, i_Bits, by decide, by decide, by decide +kernel⟩, Or.inr ⟨"RunColumns", List.mem_of_getElem? (i := 213) (by decide +kernel)⟩, zgd 95 (by decide +kernel) rfl, rfl, rfl⟩
theorem l_RC_67 : zLI RX9 67 m_Groups_init 0 := ⟨⟨cm_Groups_init, i_Groups, by decide, by decide, by decide +kernel⟩, Or.inr ⟨"RunColumns", List.mem_of_getElem? (i := 216) (by decide +kernel)⟩, zgd 217 (by decide +kernel) rfl, rfl, rfl⟩
theorem l_Groups_11 : zLI RX1 11 m_Bits_init 0 := ⟨⟨cm_Bits_init, i_Bits, by decide, by decide, by decide +kernel⟩, Or.inr ⟨"RunColumns", List.mem_of_getElem? (i := 221) (by decide +kernel)⟩, zgd 95 (by decide +kernel) rfl, rfl, rfl⟩
theorem l_RC_79 : zLI RX9 79 m_Query_init 0 := ⟨⟨cm_Query_init, i_Query, by decide, by decide, by decide +kernel⟩, Or.inr ⟨"RunColumns", List.mem_of_getElem? (i := 237) (by decide +kernel)⟩, zgd 238 (by decide +kernel) rfl, rfl, rfl⟩
theorem l_RC_80 : zLI RX9 80 m_Tape_init 0 := ⟨⟨cm_Tape_init, i_Tape, by decide, by decide, by decide +kernel⟩, Or.inr ⟨"RunColumns", List.mem_of_getElem? (i := 264) (by decide +kernel)⟩, zgd 265 (by decide +kernel) rfl, rfl, rfl⟩
theorem q_objI : Cond.instanceMethod Lib.objectInit ∈ lw_gd := zgd 77 (by decide +kernel) rfl
theorem q_objC : Cond.code Lib.objectInit ⟨#[0xb1]⟩ 1 none ∈ lw_gd := zgd 78 (by decide +kernel) rfl
theorem o_RC : Cond.methodLink RX9 5 Lib.objectInit ∈ lw_gd ∧ Cond.instanceMethod Lib.objectInit ∈ lw_gd ∧ Cond.code Lib.objectInit ⟨#[0xb1]⟩ 1 none ∈ lw_gd := ⟨zgd 76 (by decide +kernel) rfl, q_objI, q_objC⟩
theorem o_State : Cond.methodLink RX6 3 Lib.objectInit ∈ lw_gd ∧ Cond.instanceMethod Lib.objectInit ∈ lw_gd ∧ Cond.code Lib.objectInit ⟨#[0xb1]⟩ 1 none ∈ lw_gd := ⟨zgd 84 (by decide +kernel) rfl, q_objI, q_objC⟩
theorem o_Rows : Cond.methodLink RX5 3 Lib.objectInit ∈ lw_gd ∧ Cond.instanceMethod Lib.objectInit ∈ lw_gd ∧ Cond.code Lib.objectInit ⟨#[0xb1]⟩ 1 none ∈ lw_gd := ⟨zgd 90 (by decide +kernel) rfl, q_objI, q_objC⟩
theorem o_Bits : Cond.methodLink RX0 3 Lib.objectInit ∈ lw_gd ∧ Cond.instanceMethod Lib.objectInit ∈ lw_gd ∧ Cond.code Lib.objectInit ⟨#[0xb1]⟩ 1 none ∈ lw_gd := ⟨zgd 97 (by decide +kernel) rfl, q_objI, q_objC⟩
theorem o_Pairs : Cond.methodLink RX2 3 Lib.objectInit ∈ lw_gd ∧ Cond.instanceMethod Lib.objectInit ∈ lw_gd ∧ Cond.code Lib.objectInit ⟨#[0xb1]⟩ 1 none ∈ lw_gd := ⟨zgd 120 (by decide +kernel) rfl, q_objI, q_objC⟩
theorem o_Reader : Cond.methodLink RX4 3 Lib.objectInit ∈ lw_gd ∧ Cond.instanceMethod Lib.objectInit ∈ lw_gd ∧ Cond.code Lib.objectInit ⟨#[0xb1]⟩ 1 none ∈ lw_gd := ⟨zgd 171 (by decide +kernel) rfl, q_objI, q_objC⟩
theorem o_Work : Cond.methodLink RX8 3 Lib.objectInit ∈ lw_gd ∧ Cond.instanceMethod Lib.objectInit ∈ lw_gd ∧ Cond.code Lib.objectInit ⟨#[0xb1]⟩ 1 none ∈ lw_gd := ⟨zgd 196 (by decide +kernel) rfl, q_objI, q_objC⟩
theorem o_Groups : Cond.methodLink RX1 3 Lib.objectInit ∈ lw_gd ∧ Cond.instanceMethod Lib.objectInit ∈ lw_gd ∧ Cond.code Lib.objectInit ⟨#[0xb1]⟩ 1 none ∈ lw_gd := ⟨zgd 219 (by decide +kernel) rfl, q_objI, q_objC⟩
theorem o_Query : Cond.methodLink RX3 3 Lib.objectInit ∈ lw_gd ∧ Cond.instanceMethod Lib.objectInit ∈ lw_gd ∧ Cond.code Lib.objectInit ⟨#[0xb1]⟩ 1 none ∈ lw_gd := ⟨zgd 240 (by decide +kernel) rfl, q_objI, q_objC⟩
theorem o_Tape : Cond.methodLink RX7 3 Lib.objectInit ∈ lw_gd ∧ Cond.instanceMethod Lib.objectInit ∈ lw_gd ∧ Cond.code Lib.objectInit ⟨#[0xb1]⟩ 1 none ∈ lw_gd := ⟨zgd 267 (by decide +kernel) rfl, q_objI, q_objC⟩
theorem o_Mo : Cond.methodLink RX10 5 Lib.objectInit ∈ lw_gd ∧ Cond.instanceMethod Lib.objectInit ∈ lw_gd ∧ Cond.code Lib.objectInit ⟨#[0xb1]⟩ 1 none ∈ lw_gd := ⟨zgd 868 (by decide +kernel) rfl, q_objI, q_objC⟩
theorem n_La_7 : Cond.classLink RL 7 RX9 ∈ lw_gd ∧ Cond.instantiable RX9 12 ∈ lw_gd ∧ Cond.initialized RX9 ∈ lw_gd := ⟨zgd 71 (by decide +kernel) rfl, zgd 72 (by decide +kernel) rfl, i_RC⟩
theorem n_RC_11 : Cond.classLink RX9 11 RX6 ∈ lw_gd ∧ Cond.instantiable RX6 6 ∈ lw_gd ∧ Cond.initialized RX6 ∈ lw_gd := ⟨zgd 79 (by decide +kernel) rfl, zgd 80 (by decide +kernel) rfl, i_State⟩
theorem n_State_9 : Cond.classLink RX6 9 RX5 ∈ lw_gd ∧ Cond.instantiable RX5 2 ∈ lw_gd ∧ Cond.initialized RX5 ∈ lw_gd := ⟨zgd 85 (by decide +kernel) rfl, zgd 86 (by decide +kernel) rfl, i_Rows⟩
theorem n_Rows_9 : Cond.classLink RX5 9 RX0 ∈ lw_gd ∧ Cond.instantiable RX0 2 ∈ lw_gd ∧ Cond.initialized RX0 ∈ lw_gd := ⟨zgd 91 (by decide +kernel) rfl, zgd 93 (by decide +kernel) rfl, i_Bits⟩
theorem N_Rows_9 : Cond.classLink RX5 9 RX0 ∈ lw_gd ∧ Cond.arrayOver (.object RX0) ∈ lw_tbl := ⟨zgd 91 (by decide +kernel) rfl, List.mem_of_getElem? (i := 92) (by decide +kernel)⟩
theorem n_State_26 : Cond.classLink RX6 26 RX2 ∈ lw_gd ∧ Cond.instantiable RX2 4 ∈ lw_gd ∧ Cond.initialized RX2 ∈ lw_gd := ⟨zgd 115 (by decide +kernel) rfl, zgd 116 (by decide +kernel) rfl, i_Pairs⟩
theorem n_RC_25 : Cond.classLink RX9 25 RX4 ∈ lw_gd ∧ Cond.instantiable RX4 4 ∈ lw_gd ∧ Cond.initialized RX4 ∈ lw_gd := ⟨zgd 166 (by decide +kernel) rfl, zgd 167 (by decide +kernel) rfl, i_Reader⟩
theorem n_RC_32 : Cond.classLink RX9 32 RX3 ∈ lw_gd ∧ Cond.instantiable RX3 5 ∈ lw_gd ∧ Cond.initialized RX3 ∈ lw_gd := ⟨zgd 187 (by decide +kernel) rfl, zgd 236 (by decide +kernel) rfl, i_Query⟩
theorem N_RC_32 : Cond.classLink RX9 32 RX3 ∈ lw_gd ∧ Cond.arrayOver (.object RX3) ∈ lw_tbl := ⟨zgd 187 (by decide +kernel) rfl, List.mem_of_getElem? (i := 188) (by decide +kernel)⟩
theorem n_RC_42 : Cond.classLink RX9 42 RX7 ∈ lw_gd ∧ Cond.instantiable RX7 3 ∈ lw_gd ∧ Cond.initialized RX7 ∈ lw_gd := ⟨zgd 189 (by decide +kernel) rfl, zgd 263 (by decide +kernel) rfl, i_Tape⟩
theorem N_RC_42 : Cond.classLink RX9 42 RX7 ∈ lw_gd ∧ Cond.arrayOver (.object RX7) ∈ lw_tbl := ⟨zgd 189 (by decide +kernel) rfl, List.mem_of_getElem? (i := 190) (by decide +kernel)⟩
theorem n_RC_48 : Cond.classLink RX9 48 RX8 ∈ lw_gd ∧ Cond.instantiable RX8 4 ∈ lw_gd ∧ Cond.initialized RX8 ∈ lw_gd := ⟨zgd 191 (by decide +kernel) rfl, zgd 192 (by decide +kernel) rfl, i_Work⟩
theorem n_Work_9 : Cond.classLink RX8 9 RX0 ∈ lw_gd ∧ Cond.instantiable RX0 2 ∈ lw_gd ∧ Cond.initialized RX0 ∈ lw_gd := ⟨zgd 197 (by decide +kernel) rfl, zgd 93 (by decide +kernel) rfl, i_Bits⟩
theorem N_Work_9 : Cond.classLink RX8 9 RX0 ∈ lw_gd ∧ Cond.arrayOver (.object RX0) ∈ lw_tbl := ⟨zgd 197 (by decide +kernel) rfl, List.mem_of_getElem? (i := 92) (by decide +kernel)⟩
theorem n_RC_58 : Cond.classLink RX9 58 RX0 ∈ lw_gd ∧ Cond.instantiable RX0 2 ∈ lw_gd ∧ Cond.initialized RX0 ∈ lw_gd := ⟨zgd 212 (by decide +kernel) rfl, zgd 93 (by decide +kernel) rfl, i_Bits⟩
theorem N_RC_58 : Cond.classLink RX9 58 RX0 ∈ lw_gd ∧ Cond.arrayOver (.object RX0) ∈ lw_tbl := ⟨zgd 212 (by decide +kernel) rfl, List.mem_of_getElem? (i := 92) (by decide +kernel)⟩
theorem n_RC_65 : Cond.classLink RX9 65 RX1 ∈ lw_gd ∧ Cond.instantiable RX1 3 ∈ lw_gd ∧ Cond.initialized RX1 ∈ lw_gd := ⟨zgd 214 (by decide +kernel) rfl, zgd 215 (by decide +kernel) rfl, i_Groups⟩
theorem n_Groups_9 : Cond.classLink RX1 9 RX0 ∈ lw_gd ∧ Cond.instantiable RX0 2 ∈ lw_gd ∧ Cond.initialized RX0 ∈ lw_gd := ⟨zgd 220 (by decide +kernel) rfl, zgd 93 (by decide +kernel) rfl, i_Bits⟩
theorem N_Groups_9 : Cond.classLink RX1 9 RX0 ∈ lw_gd ∧ Cond.arrayOver (.object RX0) ∈ lw_tbl := ⟨zgd 220 (by decide +kernel) rfl, List.mem_of_getElem? (i := 92) (by decide +kernel)⟩
theorem n_RC_72 : Cond.classLink RX9 72 RX5 ∈ lw_gd ∧ Cond.instantiable RX5 2 ∈ lw_gd ∧ Cond.initialized RX5 ∈ lw_gd := ⟨zgd 234 (by decide +kernel) rfl, zgd 86 (by decide +kernel) rfl, i_Rows⟩
theorem n_La_10 : Cond.classLink RL 10 RX10 ∈ lw_gd ∧ Cond.instantiable RX10 23 ∈ lw_gd ∧ Cond.initialized RX10 ∈ lw_gd := ⟨zgd 863 (by decide +kernel) rfl, zgd 864 (by decide +kernel) rfl, i_Mo⟩
theorem n_Mo_54 : Cond.classLink RX10 54 "[[J" ∈ lw_gd := zgd 869 (by decide +kernel) rfl
theorem a_int : Cond.arrayClass .int ∈ lw_gd := zgd 140 (by decide +kernel) rfl
theorem a_byte : Cond.arrayClass .byte ∈ lw_gd := zgd 186 (by decide +kernel) rfl
theorem a_long : Cond.arrayClass .long ∈ lw_gd := zgd 281 (by decide +kernel) rfl
theorem v_Bits_18 : Cond.constantLong RX0 18 (-1) ∈ lw_gd := zgd 388 (by decide +kernel) rfl
theorem v_JLong_314 : Cond.constantLong RJ13 314 (6148914691236517205) ∈ lw_gd := zgd 404 (by decide +kernel) rfl
theorem v_JLong_316 : Cond.constantLong RJ13 316 (3689348814741910323) ∈ lw_gd := zgd 405 (by decide +kernel) rfl
theorem v_JLong_318 : Cond.constantLong RJ13 318 (1085102592571150095) ∈ lw_gd := zgd 406 (by decide +kernel) rfl
theorem v_RC_228 : Cond.constantLong RX9 228 (-9223372036854775808) ∈ lw_gd := zgd 731 (by decide +kernel) rfl
theorem v_Mo_107 : Cond.constant RX10 107 (2000000000) ∈ lw_gd := zgd 1028 (by decide +kernel) rfl
theorem v_Mo_123 : Cond.constant RX10 123 (2273783) ∈ lw_gd := zgd 1037 (by decide +kernel) rfl
theorem v_Mo_182 : Cond.constantLong RX10 182 (-9223372036854775808) ∈ lw_gd := zgd 1118 (by decide +kernel) rfl
theorem v_La_129 : Cond.constantLong RL 129 (4294967295) ∈ lw_gd := zgd 1194 (by decide +kernel) rfl
theorem f_JStr_38 : Cond.fieldLink RJ0 38 "java/lang/String" "COMPACT_STRINGS" "Z" ∈ lw_gd := zgd 464 (by decide +kernel) rfl
theorem f_JStr_1053 : Cond.fieldLink RJ0 1053 "jdk/internal/util/Preconditions" "SIOOBE_FORMATTER" "Ljava/util/function/BiFunction;" ∈ lw_gd := zgd 484 (by decide +kernel) rfl
theorem f_JU16_44 : Cond.fieldLink RJ2 44 "java/lang/StringUTF16" "$assertionsDisabled" "Z" ∈ lw_gd := zgd 502 (by decide +kernel) rfl
theorem f_JU16_59 : Cond.fieldLink RJ2 59 "java/lang/StringUTF16" "HI_BYTE_SHIFT" "I" ∈ lw_gd := zgd 504 (by decide +kernel) rfl
theorem f_JU16_63 : Cond.fieldLink RJ2 63 "java/lang/StringUTF16" "LO_BYTE_SHIFT" "I" ∈ lw_gd := zgd 506 (by decide +kernel) rfl
theorem f_JStr_9 : Cond.fieldLink RJ0 9 "java/lang/String" "value" "[B" ∈ lw_gd := zgd 1195 (by decide +kernel) rfl
theorem f_JStr_15 : Cond.fieldLink RJ0 15 "java/lang/String" "coder" "B" ∈ lw_gd := zgd 1196 (by decide +kernel) rfl
end
section
/-! decode rows (printed by wip/whole/gen/mk04.py) -/
theorem dX0_init_0 : decode cX0_init 0 = .ok (.aload_n 0, 1) := by decide +kernel
theorem dX0_init_1 : decode cX0_init 1 = .ok (.invokespecial 3, 3) := by decide +kernel
theorem dX0_init_4 : decode cX0_init 4 = .ok (.aload_n 0, 1) := by decide +kernel
theorem dX0_init_5 : decode cX0_init 5 = .ok (.lconst 0, 1) := by decide +kernel
theorem dX0_init_6 : decode cX0_init 6 = .ok (.putfield 9, 3) := by decide +kernel
theorem dX0_init_9 : decode cX0_init 9 = .ok (.aload_n 0, 1) := by decide +kernel
theorem dX0_init_10 : decode cX0_init 10 = .ok (.lconst 0, 1) := by decide +kernel
theorem dX0_init_11 : decode cX0_init 11 = .ok (.putfield 15, 3) := by decide +kernel
theorem dX0_init_14 : decode cX0_init 14 = .ok (.return_, 1) := by decide +kernel
theorem dX0_firstOnes_0 : decode cX0_firstOnes 0 = .ok (.iload_n 0, 1) := by decide +kernel
theorem dX0_firstOnes_1 : decode cX0_firstOnes 1 = .ok (.ifCond .gt 5, 3) := by decide +kernel
theorem dX0_firstOnes_4 : decode cX0_firstOnes 4 = .ok (.lconst 0, 1) := by decide +kernel
theorem dX0_firstOnes_5 : decode cX0_firstOnes 5 = .ok (.lreturn, 1) := by decide +kernel
theorem dX0_firstOnes_6 : decode cX0_firstOnes 6 = .ok (.iload_n 0, 1) := by decide +kernel
theorem dX0_firstOnes_7 : decode cX0_firstOnes 7 = .ok (.bipush 64, 2) := by decide +kernel
theorem dX0_firstOnes_9 : decode cX0_firstOnes 9 = .ok (.if_icmp .lt 9, 3) := by decide +kernel
theorem dX0_firstOnes_12 : decode cX0_firstOnes 12 = .ok (.ldc2_w 18, 3) := by decide +kernel
theorem dX0_firstOnes_15 : decode cX0_firstOnes 15 = .ok (.goto 8, 3) := by decide +kernel
theorem dX0_firstOnes_18 : decode cX0_firstOnes 18 = .ok (.lconst 1, 1) := by decide +kernel
theorem dX0_firstOnes_19 : decode cX0_firstOnes 19 = .ok (.iload_n 0, 1) := by decide +kernel
theorem dX0_firstOnes_20 : decode cX0_firstOnes 20 = .ok (.lshl, 1) := by decide +kernel
theorem dX0_firstOnes_21 : decode cX0_firstOnes 21 = .ok (.lconst 1, 1) := by decide +kernel
theorem dX0_firstOnes_22 : decode cX0_firstOnes 22 = .ok (.lsub, 1) := by decide +kernel
theorem dX0_firstOnes_23 : decode cX0_firstOnes 23 = .ok (.lreturn, 1) := by decide +kernel
theorem dX0_has_0 : decode cX0_has 0 = .ok (.iload_n 1, 1) := by decide +kernel
theorem dX0_has_1 : decode cX0_has 1 = .ok (.bipush 64, 2) := by decide +kernel
theorem dX0_has_3 : decode cX0_has 3 = .ok (.if_icmp .ge 10, 3) := by decide +kernel
theorem dX0_has_6 : decode cX0_has 6 = .ok (.aload_n 0, 1) := by decide +kernel
theorem dX0_has_7 : decode cX0_has 7 = .ok (.getfield 9, 3) := by decide +kernel
theorem dX0_has_10 : decode cX0_has 10 = .ok (.goto 7, 3) := by decide +kernel
theorem dX0_has_13 : decode cX0_has 13 = .ok (.aload_n 0, 1) := by decide +kernel
theorem dX0_has_14 : decode cX0_has 14 = .ok (.getfield 15, 3) := by decide +kernel
theorem dX0_has_17 : decode cX0_has 17 = .ok (.lstore_n 2, 1) := by decide +kernel
theorem dX0_has_18 : decode cX0_has 18 = .ok (.lload_n 2, 1) := by decide +kernel
theorem dX0_has_19 : decode cX0_has 19 = .ok (.iload_n 1, 1) := by decide +kernel
theorem dX0_has_20 : decode cX0_has 20 = .ok (.bipush 63, 2) := by decide +kernel
theorem dX0_has_22 : decode cX0_has 22 = .ok (.iand, 1) := by decide +kernel
theorem dX0_has_23 : decode cX0_has 23 = .ok (.lushr, 1) := by decide +kernel
theorem dX0_has_24 : decode cX0_has 24 = .ok (.lconst 1, 1) := by decide +kernel
theorem dX0_has_25 : decode cX0_has 25 = .ok (.land, 1) := by decide +kernel
theorem dX0_has_26 : decode cX0_has 26 = .ok (.lconst 0, 1) := by decide +kernel
theorem dX0_has_27 : decode cX0_has 27 = .ok (.lcmp, 1) := by decide +kernel
theorem dX0_has_28 : decode cX0_has 28 = .ok (.ifCond .eq 7, 3) := by decide +kernel
theorem dX0_has_31 : decode cX0_has 31 = .ok (.iconst 1, 1) := by decide +kernel
theorem dX0_has_32 : decode cX0_has 32 = .ok (.goto 4, 3) := by decide +kernel
theorem dX0_has_35 : decode cX0_has 35 = .ok (.iconst 0, 1) := by decide +kernel
theorem dX0_has_36 : decode cX0_has 36 = .ok (.ireturn, 1) := by decide +kernel
theorem dX0_put_0 : decode cX0_put 0 = .ok (.lconst 1, 1) := by decide +kernel
theorem dX0_put_1 : decode cX0_put 1 = .ok (.iload_n 1, 1) := by decide +kernel
theorem dX0_put_2 : decode cX0_put 2 = .ok (.bipush 63, 2) := by decide +kernel
theorem dX0_put_4 : decode cX0_put 4 = .ok (.iand, 1) := by decide +kernel
theorem dX0_put_5 : decode cX0_put 5 = .ok (.lshl, 1) := by decide +kernel
theorem dX0_put_6 : decode cX0_put 6 = .ok (.lstore_n 2, 1) := by decide +kernel
theorem dX0_put_7 : decode cX0_put 7 = .ok (.iload_n 1, 1) := by decide +kernel
theorem dX0_put_8 : decode cX0_put 8 = .ok (.bipush 64, 2) := by decide +kernel
theorem dX0_put_10 : decode cX0_put 10 = .ok (.if_icmp .ge 16, 3) := by decide +kernel
theorem dX0_put_13 : decode cX0_put 13 = .ok (.aload_n 0, 1) := by decide +kernel
theorem dX0_put_14 : decode cX0_put 14 = .ok (.dup, 1) := by decide +kernel
theorem dX0_put_15 : decode cX0_put 15 = .ok (.getfield 9, 3) := by decide +kernel
theorem dX0_put_18 : decode cX0_put 18 = .ok (.lload_n 2, 1) := by decide +kernel
theorem dX0_put_19 : decode cX0_put 19 = .ok (.lor, 1) := by decide +kernel
theorem dX0_put_20 : decode cX0_put 20 = .ok (.putfield 9, 3) := by decide +kernel
theorem dX0_put_23 : decode cX0_put 23 = .ok (.goto 13, 3) := by decide +kernel
theorem dX0_put_26 : decode cX0_put 26 = .ok (.aload_n 0, 1) := by decide +kernel
theorem dX0_put_27 : decode cX0_put 27 = .ok (.dup, 1) := by decide +kernel
theorem dX0_put_28 : decode cX0_put 28 = .ok (.getfield 15, 3) := by decide +kernel
theorem dX0_put_31 : decode cX0_put 31 = .ok (.lload_n 2, 1) := by decide +kernel
theorem dX0_put_32 : decode cX0_put 32 = .ok (.lor, 1) := by decide +kernel
theorem dX0_put_33 : decode cX0_put 33 = .ok (.putfield 15, 3) := by decide +kernel
theorem dX0_put_36 : decode cX0_put 36 = .ok (.return_, 1) := by decide +kernel
theorem dX0_become_0 : decode cX0_become 0 = .ok (.aload_n 0, 1) := by decide +kernel
theorem dX0_become_1 : decode cX0_become 1 = .ok (.aload_n 1, 1) := by decide +kernel
theorem dX0_become_2 : decode cX0_become 2 = .ok (.getfield 9, 3) := by decide +kernel
theorem dX0_become_5 : decode cX0_become 5 = .ok (.putfield 9, 3) := by decide +kernel
theorem dX0_become_8 : decode cX0_become 8 = .ok (.aload_n 0, 1) := by decide +kernel
theorem dX0_become_9 : decode cX0_become 9 = .ok (.aload_n 1, 1) := by decide +kernel
theorem dX0_become_10 : decode cX0_become 10 = .ok (.getfield 15, 3) := by decide +kernel
theorem dX0_become_13 : decode cX0_become 13 = .ok (.putfield 15, 3) := by decide +kernel
theorem dX0_become_16 : decode cX0_become 16 = .ok (.return_, 1) := by decide +kernel
theorem dX0_becomeOnes_0 : decode cX0_becomeOnes 0 = .ok (.aload_n 0, 1) := by decide +kernel
theorem dX0_becomeOnes_1 : decode cX0_becomeOnes 1 = .ok (.iload_n 1, 1) := by decide +kernel
theorem dX0_becomeOnes_2 : decode cX0_becomeOnes 2 = .ok (.invokestatic 20, 3) := by decide +kernel
theorem dX0_becomeOnes_5 : decode cX0_becomeOnes 5 = .ok (.putfield 9, 3) := by decide +kernel
theorem dX0_becomeOnes_8 : decode cX0_becomeOnes 8 = .ok (.aload_n 0, 1) := by decide +kernel
theorem dX0_becomeOnes_9 : decode cX0_becomeOnes 9 = .ok (.iload_n 1, 1) := by decide +kernel
theorem dX0_becomeOnes_10 : decode cX0_becomeOnes 10 = .ok (.bipush 64, 2) := by decide +kernel
theorem dX0_becomeOnes_12 : decode cX0_becomeOnes 12 = .ok (.isub, 1) := by decide +kernel
theorem dX0_becomeOnes_13 : decode cX0_becomeOnes 13 = .ok (.invokestatic 20, 3) := by decide +kernel
theorem dX0_becomeOnes_16 : decode cX0_becomeOnes 16 = .ok (.putfield 15, 3) := by decide +kernel
theorem dX0_becomeOnes_19 : decode cX0_becomeOnes 19 = .ok (.return_, 1) := by decide +kernel
theorem dX0_becomeZeros_0 : decode cX0_becomeZeros 0 = .ok (.aload_n 0, 1) := by decide +kernel
theorem dX0_becomeZeros_1 : decode cX0_becomeZeros 1 = .ok (.iconst 0, 1) := by decide +kernel
theorem dX0_becomeZeros_2 : decode cX0_becomeZeros 2 = .ok (.invokevirtual 24, 3) := by decide +kernel
theorem dX0_becomeZeros_5 : decode cX0_becomeZeros 5 = .ok (.return_, 1) := by decide +kernel
theorem dX0_cutTo_0 : decode cX0_cutTo 0 = .ok (.aload_n 0, 1) := by decide +kernel
theorem dX0_cutTo_1 : decode cX0_cutTo 1 = .ok (.dup, 1) := by decide +kernel
theorem dX0_cutTo_2 : decode cX0_cutTo 2 = .ok (.getfield 9, 3) := by decide +kernel
theorem dX0_cutTo_5 : decode cX0_cutTo 5 = .ok (.iload_n 1, 1) := by decide +kernel
theorem dX0_cutTo_6 : decode cX0_cutTo 6 = .ok (.invokestatic 20, 3) := by decide +kernel
theorem dX0_cutTo_9 : decode cX0_cutTo 9 = .ok (.land, 1) := by decide +kernel
theorem dX0_cutTo_10 : decode cX0_cutTo 10 = .ok (.putfield 9, 3) := by decide +kernel
theorem dX0_cutTo_13 : decode cX0_cutTo 13 = .ok (.aload_n 0, 1) := by decide +kernel
theorem dX0_cutTo_14 : decode cX0_cutTo 14 = .ok (.dup, 1) := by decide +kernel
theorem dX0_cutTo_15 : decode cX0_cutTo 15 = .ok (.getfield 15, 3) := by decide +kernel
theorem dX0_cutTo_18 : decode cX0_cutTo 18 = .ok (.iload_n 1, 1) := by decide +kernel
theorem dX0_cutTo_19 : decode cX0_cutTo 19 = .ok (.bipush 64, 2) := by decide +kernel
theorem dX0_cutTo_21 : decode cX0_cutTo 21 = .ok (.isub, 1) := by decide +kernel
theorem dX0_cutTo_22 : decode cX0_cutTo 22 = .ok (.invokestatic 20, 3) := by decide +kernel
theorem dX0_cutTo_25 : decode cX0_cutTo 25 = .ok (.land, 1) := by decide +kernel
theorem dX0_cutTo_26 : decode cX0_cutTo 26 = .ok (.putfield 15, 3) := by decide +kernel
theorem dX0_cutTo_29 : decode cX0_cutTo 29 = .ok (.return_, 1) := by decide +kernel
theorem dX0_turn_0 : decode cX0_turn 0 = .ok (.aload_n 0, 1) := by decide +kernel
theorem dX0_turn_1 : decode cX0_turn 1 = .ok (.aload_n 0, 1) := by decide +kernel
theorem dX0_turn_2 : decode cX0_turn 2 = .ok (.getfield 9, 3) := by decide +kernel
theorem dX0_turn_5 : decode cX0_turn 5 = .ok (.ldc2_w 18, 3) := by decide +kernel
theorem dX0_turn_8 : decode cX0_turn 8 = .ok (.lxor, 1) := by decide +kernel
theorem dX0_turn_9 : decode cX0_turn 9 = .ok (.putfield 9, 3) := by decide +kernel
theorem dX0_turn_12 : decode cX0_turn 12 = .ok (.aload_n 0, 1) := by decide +kernel
theorem dX0_turn_13 : decode cX0_turn 13 = .ok (.aload_n 0, 1) := by decide +kernel
theorem dX0_turn_14 : decode cX0_turn 14 = .ok (.getfield 15, 3) := by decide +kernel
theorem dX0_turn_17 : decode cX0_turn 17 = .ok (.ldc2_w 18, 3) := by decide +kernel
theorem dX0_turn_20 : decode cX0_turn 20 = .ok (.lxor, 1) := by decide +kernel
theorem dX0_turn_21 : decode cX0_turn 21 = .ok (.putfield 15, 3) := by decide +kernel
theorem dX0_turn_24 : decode cX0_turn 24 = .ok (.aload_n 0, 1) := by decide +kernel
theorem dX0_turn_25 : decode cX0_turn 25 = .ok (.iload_n 1, 1) := by decide +kernel
theorem dX0_turn_26 : decode cX0_turn 26 = .ok (.invokevirtual 28, 3) := by decide +kernel
theorem dX0_turn_29 : decode cX0_turn 29 = .ok (.return_, 1) := by decide +kernel
theorem dX0_keepThoseOf_0 : decode cX0_keepThoseOf 0 = .ok (.aload_n 0, 1) := by decide +kernel
theorem dX0_keepThoseOf_1 : decode cX0_keepThoseOf 1 = .ok (.dup, 1) := by decide +kernel
theorem dX0_keepThoseOf_2 : decode cX0_keepThoseOf 2 = .ok (.getfield 9, 3) := by decide +kernel
theorem dX0_keepThoseOf_5 : decode cX0_keepThoseOf 5 = .ok (.aload_n 1, 1) := by decide +kernel
theorem dX0_keepThoseOf_6 : decode cX0_keepThoseOf 6 = .ok (.getfield 9, 3) := by decide +kernel
theorem dX0_keepThoseOf_9 : decode cX0_keepThoseOf 9 = .ok (.land, 1) := by decide +kernel
theorem dX0_keepThoseOf_10 : decode cX0_keepThoseOf 10 = .ok (.putfield 9, 3) := by decide +kernel
theorem dX0_keepThoseOf_13 : decode cX0_keepThoseOf 13 = .ok (.aload_n 0, 1) := by decide +kernel
theorem dX0_keepThoseOf_14 : decode cX0_keepThoseOf 14 = .ok (.dup, 1) := by decide +kernel
theorem dX0_keepThoseOf_15 : decode cX0_keepThoseOf 15 = .ok (.getfield 15, 3) := by decide +kernel
theorem dX0_keepThoseOf_18 : decode cX0_keepThoseOf 18 = .ok (.aload_n 1, 1) := by decide +kernel
theorem dX0_keepThoseOf_19 : decode cX0_keepThoseOf 19 = .ok (.getfield 15, 3) := by decide +kernel
theorem dX0_keepThoseOf_22 : decode cX0_keepThoseOf 22 = .ok (.land, 1) := by decide +kernel
theorem dX0_keepThoseOf_23 : decode cX0_keepThoseOf 23 = .ok (.putfield 15, 3) := by decide +kernel
theorem dX0_keepThoseOf_26 : decode cX0_keepThoseOf 26 = .ok (.return_, 1) := by decide +kernel
theorem dX0_takeThoseOf_0 : decode cX0_takeThoseOf 0 = .ok (.aload_n 0, 1) := by decide +kernel
theorem dX0_takeThoseOf_1 : decode cX0_takeThoseOf 1 = .ok (.dup, 1) := by decide +kernel
theorem dX0_takeThoseOf_2 : decode cX0_takeThoseOf 2 = .ok (.getfield 9, 3) := by decide +kernel
theorem dX0_takeThoseOf_5 : decode cX0_takeThoseOf 5 = .ok (.aload_n 1, 1) := by decide +kernel
theorem dX0_takeThoseOf_6 : decode cX0_takeThoseOf 6 = .ok (.getfield 9, 3) := by decide +kernel
theorem dX0_takeThoseOf_9 : decode cX0_takeThoseOf 9 = .ok (.lor, 1) := by decide +kernel
theorem dX0_takeThoseOf_10 : decode cX0_takeThoseOf 10 = .ok (.putfield 9, 3) := by decide +kernel
theorem dX0_takeThoseOf_13 : decode cX0_takeThoseOf 13 = .ok (.aload_n 0, 1) := by decide +kernel
theorem dX0_takeThoseOf_14 : decode cX0_takeThoseOf 14 = .ok (.dup, 1) := by decide +kernel
theorem dX0_takeThoseOf_15 : decode cX0_takeThoseOf 15 = .ok (.getfield 15, 3) := by decide +kernel
theorem dX0_takeThoseOf_18 : decode cX0_takeThoseOf 18 = .ok (.aload_n 1, 1) := by decide +kernel
theorem dX0_takeThoseOf_19 : decode cX0_takeThoseOf 19 = .ok (.getfield 15, 3) := by decide +kernel
theorem dX0_takeThoseOf_22 : decode cX0_takeThoseOf 22 = .ok (.lor, 1) := by decide +kernel
theorem dX0_takeThoseOf_23 : decode cX0_takeThoseOf 23 = .ok (.putfield 15, 3) := by decide +kernel
theorem dX0_takeThoseOf_26 : decode cX0_takeThoseOf 26 = .ok (.return_, 1) := by decide +kernel
theorem dX0_ones_0 : decode cX0_ones 0 = .ok (.aload_n 0, 1) := by decide +kernel
theorem dX0_ones_1 : decode cX0_ones 1 = .ok (.getfield 9, 3) := by decide +kernel
theorem dX0_ones_4 : decode cX0_ones 4 = .ok (.invokestatic 31, 3) := by decide +kernel
theorem dX0_ones_7 : decode cX0_ones 7 = .ok (.aload_n 0, 1) := by decide +kernel
theorem dX0_ones_8 : decode cX0_ones 8 = .ok (.getfield 15, 3) := by decide +kernel
theorem dX0_ones_11 : decode cX0_ones 11 = .ok (.invokestatic 31, 3) := by decide +kernel
theorem dX0_ones_14 : decode cX0_ones 14 = .ok (.iadd, 1) := by decide +kernel
theorem dX0_ones_15 : decode cX0_ones 15 = .ok (.ireturn, 1) := by decide +kernel
theorem dX0_runsWithin_0 : decode cX0_runsWithin 0 = .ok (.iload_n 1, 1) := by decide +kernel
theorem dX0_runsWithin_1 : decode cX0_runsWithin 1 = .ok (.ifCond .gt 5, 3) := by decide +kernel
theorem dX0_runsWithin_4 : decode cX0_runsWithin 4 = .ok (.iconst 0, 1) := by decide +kernel
theorem dX0_runsWithin_5 : decode cX0_runsWithin 5 = .ok (.ireturn, 1) := by decide +kernel
theorem dX0_runsWithin_6 : decode cX0_runsWithin 6 = .ok (.aload_n 0, 1) := by decide +kernel
theorem dX0_runsWithin_7 : decode cX0_runsWithin 7 = .ok (.getfield 9, 3) := by decide +kernel
theorem dX0_runsWithin_10 : decode cX0_runsWithin 10 = .ok (.aload_n 0, 1) := by decide +kernel
theorem dX0_runsWithin_11 : decode cX0_runsWithin 11 = .ok (.getfield 9, 3) := by decide +kernel
theorem dX0_runsWithin_14 : decode cX0_runsWithin 14 = .ok (.iconst 1, 1) := by decide +kernel
theorem dX0_runsWithin_15 : decode cX0_runsWithin 15 = .ok (.lushr, 1) := by decide +kernel
theorem dX0_runsWithin_16 : decode cX0_runsWithin 16 = .ok (.aload_n 0, 1) := by decide +kernel
theorem dX0_runsWithin_17 : decode cX0_runsWithin 17 = .ok (.getfield 15, 3) := by decide +kernel
theorem dX0_runsWithin_20 : decode cX0_runsWithin 20 = .ok (.bipush 63, 2) := by decide +kernel
theorem dX0_runsWithin_22 : decode cX0_runsWithin 22 = .ok (.lshl, 1) := by decide +kernel
theorem dX0_runsWithin_23 : decode cX0_runsWithin 23 = .ok (.lor, 1) := by decide +kernel
theorem dX0_runsWithin_24 : decode cX0_runsWithin 24 = .ok (.lxor, 1) := by decide +kernel
theorem dX0_runsWithin_25 : decode cX0_runsWithin 25 = .ok (.lstore_n 2, 1) := by decide +kernel
theorem dX0_runsWithin_26 : decode cX0_runsWithin 26 = .ok (.aload_n 0, 1) := by decide +kernel
theorem dX0_runsWithin_27 : decode cX0_runsWithin 27 = .ok (.getfield 15, 3) := by decide +kernel
theorem dX0_runsWithin_30 : decode cX0_runsWithin 30 = .ok (.aload_n 0, 1) := by decide +kernel
theorem dX0_runsWithin_31 : decode cX0_runsWithin 31 = .ok (.getfield 15, 3) := by decide +kernel
theorem dX0_runsWithin_34 : decode cX0_runsWithin 34 = .ok (.iconst 1, 1) := by decide +kernel
theorem dX0_runsWithin_35 : decode cX0_runsWithin 35 = .ok (.lushr, 1) := by decide +kernel
theorem dX0_runsWithin_36 : decode cX0_runsWithin 36 = .ok (.lxor, 1) := by decide +kernel
theorem dX0_runsWithin_37 : decode cX0_runsWithin 37 = .ok (.lstore 4, 2) := by decide +kernel
theorem dX0_runsWithin_39 : decode cX0_runsWithin 39 = .ok (.lload_n 2, 1) := by decide +kernel
theorem dX0_runsWithin_40 : decode cX0_runsWithin 40 = .ok (.iload_n 1, 1) := by decide +kernel
theorem dX0_runsWithin_41 : decode cX0_runsWithin 41 = .ok (.iconst 1, 1) := by decide +kernel
theorem dX0_runsWithin_42 : decode cX0_runsWithin 42 = .ok (.isub, 1) := by decide +kernel
theorem dX0_runsWithin_43 : decode cX0_runsWithin 43 = .ok (.invokestatic 20, 3) := by decide +kernel
theorem dX0_runsWithin_46 : decode cX0_runsWithin 46 = .ok (.land, 1) := by decide +kernel
theorem dX0_runsWithin_47 : decode cX0_runsWithin 47 = .ok (.invokestatic 31, 3) := by decide +kernel
theorem dX0_runsWithin_50 : decode cX0_runsWithin 50 = .ok (.lload 4, 2) := by decide +kernel
theorem dX0_runsWithin_52 : decode cX0_runsWithin 52 = .ok (.iload_n 1, 1) := by decide +kernel
theorem dX0_runsWithin_53 : decode cX0_runsWithin 53 = .ok (.iconst 1, 1) := by decide +kernel
theorem dX0_runsWithin_54 : decode cX0_runsWithin 54 = .ok (.isub, 1) := by decide +kernel
theorem dX0_runsWithin_55 : decode cX0_runsWithin 55 = .ok (.bipush 64, 2) := by decide +kernel
theorem dX0_runsWithin_57 : decode cX0_runsWithin 57 = .ok (.isub, 1) := by decide +kernel
theorem dX0_runsWithin_58 : decode cX0_runsWithin 58 = .ok (.invokestatic 20, 3) := by decide +kernel
theorem dX0_runsWithin_61 : decode cX0_runsWithin 61 = .ok (.land, 1) := by decide +kernel
theorem dX0_runsWithin_62 : decode cX0_runsWithin 62 = .ok (.invokestatic 31, 3) := by decide +kernel
theorem dX0_runsWithin_65 : decode cX0_runsWithin 65 = .ok (.iadd, 1) := by decide +kernel
theorem dX0_runsWithin_66 : decode cX0_runsWithin 66 = .ok (.istore 6, 2) := by decide +kernel
theorem dX0_runsWithin_68 : decode cX0_runsWithin 68 = .ok (.iload 6, 2) := by decide +kernel
theorem dX0_runsWithin_70 : decode cX0_runsWithin 70 = .ok (.iconst 1, 1) := by decide +kernel
theorem dX0_runsWithin_71 : decode cX0_runsWithin 71 = .ok (.iadd, 1) := by decide +kernel
theorem dX0_runsWithin_72 : decode cX0_runsWithin 72 = .ok (.ireturn, 1) := by decide +kernel
theorem dX0_endOfRun_0 : decode cX0_endOfRun 0 = .ok (.iload_n 1, 1) := by decide +kernel
theorem dX0_endOfRun_1 : decode cX0_endOfRun 1 = .ok (.iconst 1, 1) := by decide +kernel
theorem dX0_endOfRun_2 : decode cX0_endOfRun 2 = .ok (.iadd, 1) := by decide +kernel
theorem dX0_endOfRun_3 : decode cX0_endOfRun 3 = .ok (.istore_n 3, 1) := by decide +kernel
theorem dX0_endOfRun_4 : decode cX0_endOfRun 4 = .ok (.iload_n 3, 1) := by decide +kernel
theorem dX0_endOfRun_5 : decode cX0_endOfRun 5 = .ok (.iload_n 2, 1) := by decide +kernel
theorem dX0_endOfRun_6 : decode cX0_endOfRun 6 = .ok (.if_icmp .ge 22, 3) := by decide +kernel
theorem dX0_endOfRun_9 : decode cX0_endOfRun 9 = .ok (.aload_n 0, 1) := by decide +kernel
theorem dX0_endOfRun_10 : decode cX0_endOfRun 10 = .ok (.iload_n 3, 1) := by decide +kernel
theorem dX0_endOfRun_11 : decode cX0_endOfRun 11 = .ok (.invokevirtual 37, 3) := by decide +kernel
theorem dX0_endOfRun_14 : decode cX0_endOfRun 14 = .ok (.aload_n 0, 1) := by decide +kernel
theorem dX0_endOfRun_15 : decode cX0_endOfRun 15 = .ok (.iload_n 1, 1) := by decide +kernel
theorem dX0_endOfRun_16 : decode cX0_endOfRun 16 = .ok (.invokevirtual 37, 3) := by decide +kernel
theorem dX0_endOfRun_19 : decode cX0_endOfRun 19 = .ok (.if_icmp .ne 9, 3) := by decide +kernel
theorem dX0_endOfRun_22 : decode cX0_endOfRun 22 = .ok (.iinc 3 1, 3) := by decide +kernel
theorem dX0_endOfRun_25 : decode cX0_endOfRun 25 = .ok (.goto (-21), 3) := by decide +kernel
theorem dX0_endOfRun_28 : decode cX0_endOfRun 28 = .ok (.iload_n 3, 1) := by decide +kernel
theorem dX0_endOfRun_29 : decode cX0_endOfRun 29 = .ok (.ireturn, 1) := by decide +kernel
theorem dX0_startOfRun_0 : decode cX0_startOfRun 0 = .ok (.iload_n 1, 1) := by decide +kernel
theorem dX0_startOfRun_1 : decode cX0_startOfRun 1 = .ok (.aload_n 0, 1) := by decide +kernel
theorem dX0_startOfRun_2 : decode cX0_startOfRun 2 = .ok (.iload_n 2, 1) := by decide +kernel
theorem dX0_startOfRun_3 : decode cX0_startOfRun 3 = .ok (.invokevirtual 41, 3) := by decide +kernel
theorem dX0_startOfRun_6 : decode cX0_startOfRun 6 = .ok (.if_icmp .lt 6, 3) := by decide +kernel
theorem dX0_startOfRun_9 : decode cX0_startOfRun 9 = .ok (.bipush (-5), 2) := by decide +kernel
theorem dX0_startOfRun_11 : decode cX0_startOfRun 11 = .ok (.ireturn, 1) := by decide +kernel
theorem dX0_startOfRun_12 : decode cX0_startOfRun 12 = .ok (.iconst 0, 1) := by decide +kernel
theorem dX0_startOfRun_13 : decode cX0_startOfRun 13 = .ok (.istore_n 3, 1) := by decide +kernel
theorem dX0_startOfRun_14 : decode cX0_startOfRun 14 = .ok (.iconst 0, 1) := by decide +kernel
theorem dX0_startOfRun_15 : decode cX0_startOfRun 15 = .ok (.istore 4, 2) := by decide +kernel
theorem dX0_startOfRun_17 : decode cX0_startOfRun 17 = .ok (.iload 4, 2) := by decide +kernel
theorem dX0_startOfRun_19 : decode cX0_startOfRun 19 = .ok (.iload_n 1, 1) := by decide +kernel
theorem dX0_startOfRun_20 : decode cX0_startOfRun 20 = .ok (.if_icmp .ge 16, 3) := by decide +kernel
theorem dX0_startOfRun_23 : decode cX0_startOfRun 23 = .ok (.aload_n 0, 1) := by decide +kernel
theorem dX0_startOfRun_24 : decode cX0_startOfRun 24 = .ok (.iload_n 3, 1) := by decide +kernel
theorem dX0_startOfRun_25 : decode cX0_startOfRun 25 = .ok (.iload_n 2, 1) := by decide +kernel
theorem dX0_startOfRun_26 : decode cX0_startOfRun 26 = .ok (.invokevirtual 45, 3) := by decide +kernel
theorem dX0_startOfRun_29 : decode cX0_startOfRun 29 = .ok (.istore_n 3, 1) := by decide +kernel
theorem dX0_startOfRun_30 : decode cX0_startOfRun 30 = .ok (.iinc 4 1, 3) := by decide +kernel
theorem dX0_startOfRun_33 : decode cX0_startOfRun 33 = .ok (.goto (-16), 3) := by decide +kernel
theorem dX0_startOfRun_36 : decode cX0_startOfRun 36 = .ok (.iload_n 3, 1) := by decide +kernel
theorem dX0_startOfRun_37 : decode cX0_startOfRun 37 = .ok (.ireturn, 1) := by decide +kernel
theorem dX0_placeOfOne_0 : decode cX0_placeOfOne 0 = .ok (.iconst 0, 1) := by decide +kernel
theorem dX0_placeOfOne_1 : decode cX0_placeOfOne 1 = .ok (.istore_n 3, 1) := by decide +kernel
theorem dX0_placeOfOne_2 : decode cX0_placeOfOne 2 = .ok (.iconst 0, 1) := by decide +kernel
theorem dX0_placeOfOne_3 : decode cX0_placeOfOne 3 = .ok (.istore 4, 2) := by decide +kernel
theorem dX0_placeOfOne_5 : decode cX0_placeOfOne 5 = .ok (.iload 4, 2) := by decide +kernel
theorem dX0_placeOfOne_7 : decode cX0_placeOfOne 7 = .ok (.iload_n 2, 1) := by decide +kernel
theorem dX0_placeOfOne_8 : decode cX0_placeOfOne 8 = .ok (.if_icmp .ge 29, 3) := by decide +kernel
theorem dX0_placeOfOne_11 : decode cX0_placeOfOne 11 = .ok (.aload_n 0, 1) := by decide +kernel
theorem dX0_placeOfOne_12 : decode cX0_placeOfOne 12 = .ok (.iload 4, 2) := by decide +kernel
theorem dX0_placeOfOne_14 : decode cX0_placeOfOne 14 = .ok (.invokevirtual 37, 3) := by decide +kernel
theorem dX0_placeOfOne_17 : decode cX0_placeOfOne 17 = .ok (.ifCond .eq 14, 3) := by decide +kernel
theorem dX0_placeOfOne_20 : decode cX0_placeOfOne 20 = .ok (.iload_n 3, 1) := by decide +kernel
theorem dX0_placeOfOne_21 : decode cX0_placeOfOne 21 = .ok (.iload_n 1, 1) := by decide +kernel
theorem dX0_placeOfOne_22 : decode cX0_placeOfOne 22 = .ok (.if_icmp .ne 6, 3) := by decide +kernel
theorem dX0_placeOfOne_25 : decode cX0_placeOfOne 25 = .ok (.iload 4, 2) := by decide +kernel
theorem dX0_placeOfOne_27 : decode cX0_placeOfOne 27 = .ok (.ireturn, 1) := by decide +kernel
theorem dX0_placeOfOne_28 : decode cX0_placeOfOne 28 = .ok (.iinc 3 1, 3) := by decide +kernel
theorem dX0_placeOfOne_31 : decode cX0_placeOfOne 31 = .ok (.iinc 4 1, 3) := by decide +kernel
theorem dX0_placeOfOne_34 : decode cX0_placeOfOne 34 = .ok (.goto (-29), 3) := by decide +kernel
theorem dX0_placeOfOne_37 : decode cX0_placeOfOne 37 = .ok (.bipush (-5), 2) := by decide +kernel
theorem dX0_placeOfOne_39 : decode cX0_placeOfOne 39 = .ok (.ireturn, 1) := by decide +kernel
theorem dX1_init_0 : decode cX1_init 0 = .ok (.aload_n 0, 1) := by decide +kernel
theorem dX1_init_1 : decode cX1_init 1 = .ok (.invokespecial 3, 3) := by decide +kernel
theorem dX1_init_4 : decode cX1_init 4 = .ok (.aload_n 0, 1) := by decide +kernel
theorem dX1_init_5 : decode cX1_init 5 = .ok (.new 9, 3) := by decide +kernel
theorem dX1_init_8 : decode cX1_init 8 = .ok (.dup, 1) := by decide +kernel
theorem dX1_init_9 : decode cX1_init 9 = .ok (.invokespecial 11, 3) := by decide +kernel
theorem dX1_init_12 : decode cX1_init 12 = .ok (.putfield 12, 3) := by decide +kernel
theorem dX1_init_15 : decode cX1_init 15 = .ok (.aload_n 0, 1) := by decide +kernel
theorem dX1_init_16 : decode cX1_init 16 = .ok (.bipush 16, 2) := by decide +kernel
theorem dX1_init_18 : decode cX1_init 18 = .ok (.newarray .int, 2) := by decide +kernel
theorem dX1_init_20 : decode cX1_init 20 = .ok (.putfield 18, 3) := by decide +kernel
theorem dX1_init_23 : decode cX1_init 23 = .ok (.aload_n 0, 1) := by decide +kernel
theorem dX1_init_24 : decode cX1_init 24 = .ok (.iconst 0, 1) := by decide +kernel
theorem dX1_init_25 : decode cX1_init 25 = .ok (.putfield 22, 3) := by decide +kernel
theorem dX1_init_28 : decode cX1_init 28 = .ok (.return_, 1) := by decide +kernel
theorem dX1_fill_0 : decode cX1_fill 0 = .ok (.aload_n 0, 1) := by decide +kernel
theorem dX1_fill_1 : decode cX1_fill 1 = .ok (.iconst 0, 1) := by decide +kernel
theorem dX1_fill_2 : decode cX1_fill 2 = .ok (.putfield 22, 3) := by decide +kernel
theorem dX1_fill_5 : decode cX1_fill 5 = .ok (.iconst 0, 1) := by decide +kernel
theorem dX1_fill_6 : decode cX1_fill 6 = .ok (.istore 4, 2) := by decide +kernel
theorem dX1_fill_8 : decode cX1_fill 8 = .ok (.iload 4, 2) := by decide +kernel
theorem dX1_fill_10 : decode cX1_fill 10 = .ok (.bipush 16, 2) := by decide +kernel
theorem dX1_fill_12 : decode cX1_fill 12 = .ok (.if_icmp .ge 61, 3) := by decide +kernel
theorem dX1_fill_15 : decode cX1_fill 15 = .ok (.aload_n 0, 1) := by decide +kernel
theorem dX1_fill_16 : decode cX1_fill 16 = .ok (.getfield 12, 3) := by decide +kernel
theorem dX1_fill_19 : decode cX1_fill 19 = .ok (.aload_n 1, 1) := by decide +kernel
theorem dX1_fill_20 : decode cX1_fill 20 = .ok (.invokevirtual 26, 3) := by decide +kernel
theorem dX1_fill_23 : decode cX1_fill 23 = .ok (.aload_n 0, 1) := by decide +kernel
theorem dX1_fill_24 : decode cX1_fill 24 = .ok (.getfield 12, 3) := by decide +kernel
theorem dX1_fill_27 : decode cX1_fill 27 = .ok (.aload_n 2, 1) := by decide +kernel
theorem dX1_fill_28 : decode cX1_fill 28 = .ok (.iload_n 3, 1) := by decide +kernel
theorem dX1_fill_29 : decode cX1_fill 29 = .ok (.iload 4, 2) := by decide +kernel
theorem dX1_fill_31 : decode cX1_fill 31 = .ok (.invokevirtual 30, 3) := by decide +kernel
theorem dX1_fill_34 : decode cX1_fill 34 = .ok (.invokevirtual 36, 3) := by decide +kernel
theorem dX1_fill_37 : decode cX1_fill 37 = .ok (.aload_n 0, 1) := by decide +kernel
theorem dX1_fill_38 : decode cX1_fill 38 = .ok (.getfield 18, 3) := by decide +kernel
theorem dX1_fill_41 : decode cX1_fill 41 = .ok (.iload 4, 2) := by decide +kernel
theorem dX1_fill_43 : decode cX1_fill 43 = .ok (.aload_n 0, 1) := by decide +kernel
theorem dX1_fill_44 : decode cX1_fill 44 = .ok (.getfield 12, 3) := by decide +kernel
theorem dX1_fill_47 : decode cX1_fill 47 = .ok (.invokevirtual 39, 3) := by decide +kernel
theorem dX1_fill_50 : decode cX1_fill 50 = .ok (.iastore, 1) := by decide +kernel
theorem dX1_fill_51 : decode cX1_fill 51 = .ok (.aload_n 0, 1) := by decide +kernel
theorem dX1_fill_52 : decode cX1_fill 52 = .ok (.dup, 1) := by decide +kernel
theorem dX1_fill_53 : decode cX1_fill 53 = .ok (.getfield 22, 3) := by decide +kernel
theorem dX1_fill_56 : decode cX1_fill 56 = .ok (.aload_n 0, 1) := by decide +kernel
theorem dX1_fill_57 : decode cX1_fill 57 = .ok (.getfield 18, 3) := by decide +kernel
theorem dX1_fill_60 : decode cX1_fill 60 = .ok (.iload 4, 2) := by decide +kernel
theorem dX1_fill_62 : decode cX1_fill 62 = .ok (.iaload, 1) := by decide +kernel
theorem dX1_fill_63 : decode cX1_fill 63 = .ok (.iadd, 1) := by decide +kernel
theorem dX1_fill_64 : decode cX1_fill 64 = .ok (.putfield 22, 3) := by decide +kernel
theorem dX1_fill_67 : decode cX1_fill 67 = .ok (.iinc 4 1, 3) := by decide +kernel
theorem dX1_fill_70 : decode cX1_fill 70 = .ok (.goto (-62), 3) := by decide +kernel
theorem dX1_fill_73 : decode cX1_fill 73 = .ok (.return_, 1) := by decide +kernel
theorem dX1_sum_0 : decode cX1_sum 0 = .ok (.iconst 0, 1) := by decide +kernel
theorem dX1_sum_1 : decode cX1_sum 1 = .ok (.istore_n 1, 1) := by decide +kernel
theorem dX1_sum_2 : decode cX1_sum 2 = .ok (.iconst 0, 1) := by decide +kernel
theorem dX1_sum_3 : decode cX1_sum 3 = .ok (.istore_n 2, 1) := by decide +kernel
theorem dX1_sum_4 : decode cX1_sum 4 = .ok (.iload_n 2, 1) := by decide +kernel
theorem dX1_sum_5 : decode cX1_sum 5 = .ok (.bipush 16, 2) := by decide +kernel
theorem dX1_sum_7 : decode cX1_sum 7 = .ok (.if_icmp .ge 20, 3) := by decide +kernel
theorem dX1_sum_10 : decode cX1_sum 10 = .ok (.iload_n 1, 1) := by decide +kernel
theorem dX1_sum_11 : decode cX1_sum 11 = .ok (.iload_n 2, 1) := by decide +kernel
theorem dX1_sum_12 : decode cX1_sum 12 = .ok (.aload_n 0, 1) := by decide +kernel
theorem dX1_sum_13 : decode cX1_sum 13 = .ok (.getfield 18, 3) := by decide +kernel
theorem dX1_sum_16 : decode cX1_sum 16 = .ok (.iload_n 2, 1) := by decide +kernel
theorem dX1_sum_17 : decode cX1_sum 17 = .ok (.iaload, 1) := by decide +kernel
theorem dX1_sum_18 : decode cX1_sum 18 = .ok (.imul, 1) := by decide +kernel
theorem dX1_sum_19 : decode cX1_sum 19 = .ok (.iadd, 1) := by decide +kernel
theorem dX1_sum_20 : decode cX1_sum 20 = .ok (.istore_n 1, 1) := by decide +kernel
theorem dX1_sum_21 : decode cX1_sum 21 = .ok (.iinc 2 1, 3) := by decide +kernel
theorem dX1_sum_24 : decode cX1_sum 24 = .ok (.goto (-20), 3) := by decide +kernel
theorem dX1_sum_27 : decode cX1_sum 27 = .ok (.iload_n 1, 1) := by decide +kernel
theorem dX1_sum_28 : decode cX1_sum 28 = .ok (.ireturn, 1) := by decide +kernel
theorem dX1_least_0 : decode cX1_least 0 = .ok (.iconst 0, 1) := by decide +kernel
theorem dX1_least_1 : decode cX1_least 1 = .ok (.istore_n 1, 1) := by decide +kernel
theorem dX1_least_2 : decode cX1_least 2 = .ok (.iload_n 1, 1) := by decide +kernel
theorem dX1_least_3 : decode cX1_least 3 = .ok (.bipush 16, 2) := by decide +kernel
theorem dX1_least_5 : decode cX1_least 5 = .ok (.if_icmp .ge 20, 3) := by decide +kernel
theorem dX1_least_8 : decode cX1_least 8 = .ok (.aload_n 0, 1) := by decide +kernel
theorem dX1_least_9 : decode cX1_least 9 = .ok (.getfield 18, 3) := by decide +kernel
theorem dX1_least_12 : decode cX1_least 12 = .ok (.iload_n 1, 1) := by decide +kernel
theorem dX1_least_13 : decode cX1_least 13 = .ok (.iaload, 1) := by decide +kernel
theorem dX1_least_14 : decode cX1_least 14 = .ok (.ifCond .le 5, 3) := by decide +kernel
theorem dX1_least_17 : decode cX1_least 17 = .ok (.iload_n 1, 1) := by decide +kernel
theorem dX1_least_18 : decode cX1_least 18 = .ok (.ireturn, 1) := by decide +kernel
theorem dX1_least_19 : decode cX1_least 19 = .ok (.iinc 1 1, 3) := by decide +kernel
theorem dX1_least_22 : decode cX1_least 22 = .ok (.goto (-20), 3) := by decide +kernel
theorem dX1_least_25 : decode cX1_least 25 = .ok (.bipush (-5), 2) := by decide +kernel
theorem dX1_least_27 : decode cX1_least 27 = .ok (.ireturn, 1) := by decide +kernel
theorem dX1_greatest_0 : decode cX1_greatest 0 = .ok (.bipush 15, 2) := by decide +kernel
theorem dX1_greatest_2 : decode cX1_greatest 2 = .ok (.istore_n 1, 1) := by decide +kernel
theorem dX1_greatest_3 : decode cX1_greatest 3 = .ok (.iload_n 1, 1) := by decide +kernel
theorem dX1_greatest_4 : decode cX1_greatest 4 = .ok (.ifCond .lt 20, 3) := by decide +kernel
theorem dX1_greatest_7 : decode cX1_greatest 7 = .ok (.aload_n 0, 1) := by decide +kernel
theorem dX1_greatest_8 : decode cX1_greatest 8 = .ok (.getfield 18, 3) := by decide +kernel
theorem dX1_greatest_11 : decode cX1_greatest 11 = .ok (.iload_n 1, 1) := by decide +kernel
theorem dX1_greatest_12 : decode cX1_greatest 12 = .ok (.iaload, 1) := by decide +kernel
theorem dX1_greatest_13 : decode cX1_greatest 13 = .ok (.ifCond .le 5, 3) := by decide +kernel
theorem dX1_greatest_16 : decode cX1_greatest 16 = .ok (.iload_n 1, 1) := by decide +kernel
theorem dX1_greatest_17 : decode cX1_greatest 17 = .ok (.ireturn, 1) := by decide +kernel
theorem dX1_greatest_18 : decode cX1_greatest 18 = .ok (.iinc 1 (-1), 3) := by decide +kernel
theorem dX1_greatest_21 : decode cX1_greatest 21 = .ok (.goto (-18), 3) := by decide +kernel
theorem dX1_greatest_24 : decode cX1_greatest 24 = .ok (.bipush (-5), 2) := by decide +kernel
theorem dX1_greatest_26 : decode cX1_greatest 26 = .ok (.ireturn, 1) := by decide +kernel
theorem dX1_middle_0 : decode cX1_middle 0 = .ok (.iconst 0, 1) := by decide +kernel
theorem dX1_middle_1 : decode cX1_middle 1 = .ok (.istore_n 1, 1) := by decide +kernel
theorem dX1_middle_2 : decode cX1_middle 2 = .ok (.iconst 0, 1) := by decide +kernel
theorem dX1_middle_3 : decode cX1_middle 3 = .ok (.istore_n 2, 1) := by decide +kernel
theorem dX1_middle_4 : decode cX1_middle 4 = .ok (.iload_n 2, 1) := by decide +kernel
theorem dX1_middle_5 : decode cX1_middle 5 = .ok (.bipush 16, 2) := by decide +kernel
theorem dX1_middle_7 : decode cX1_middle 7 = .ok (.if_icmp .ge 34, 3) := by decide +kernel
theorem dX1_middle_10 : decode cX1_middle 10 = .ok (.iload_n 1, 1) := by decide +kernel
theorem dX1_middle_11 : decode cX1_middle 11 = .ok (.aload_n 0, 1) := by decide +kernel
theorem dX1_middle_12 : decode cX1_middle 12 = .ok (.getfield 18, 3) := by decide +kernel
theorem dX1_middle_15 : decode cX1_middle 15 = .ok (.iload_n 2, 1) := by decide +kernel
theorem dX1_middle_16 : decode cX1_middle 16 = .ok (.iaload, 1) := by decide +kernel
theorem dX1_middle_17 : decode cX1_middle 17 = .ok (.iadd, 1) := by decide +kernel
theorem dX1_middle_18 : decode cX1_middle 18 = .ok (.istore_n 1, 1) := by decide +kernel
theorem dX1_middle_19 : decode cX1_middle 19 = .ok (.iload_n 1, 1) := by decide +kernel
theorem dX1_middle_20 : decode cX1_middle 20 = .ok (.ifCond .le 15, 3) := by decide +kernel
theorem dX1_middle_23 : decode cX1_middle 23 = .ok (.iload_n 1, 1) := by decide +kernel
theorem dX1_middle_24 : decode cX1_middle 24 = .ok (.iconst 2, 1) := by decide +kernel
theorem dX1_middle_25 : decode cX1_middle 25 = .ok (.imul, 1) := by decide +kernel
theorem dX1_middle_26 : decode cX1_middle 26 = .ok (.aload_n 0, 1) := by decide +kernel
theorem dX1_middle_27 : decode cX1_middle 27 = .ok (.getfield 22, 3) := by decide +kernel
theorem dX1_middle_30 : decode cX1_middle 30 = .ok (.if_icmp .lt 5, 3) := by decide +kernel
theorem dX1_middle_33 : decode cX1_middle 33 = .ok (.iload_n 2, 1) := by decide +kernel
theorem dX1_middle_34 : decode cX1_middle 34 = .ok (.ireturn, 1) := by decide +kernel
theorem dX1_middle_35 : decode cX1_middle 35 = .ok (.iinc 2 1, 3) := by decide +kernel
theorem dX1_middle_38 : decode cX1_middle 38 = .ok (.goto (-34), 3) := by decide +kernel
theorem dX1_middle_41 : decode cX1_middle 41 = .ok (.bipush (-5), 2) := by decide +kernel
theorem dX1_middle_43 : decode cX1_middle 43 = .ok (.ireturn, 1) := by decide +kernel
theorem dX1_unlike_0 : decode cX1_unlike 0 = .ok (.iconst 0, 1) := by decide +kernel
theorem dX1_unlike_1 : decode cX1_unlike 1 = .ok (.istore_n 1, 1) := by decide +kernel
theorem dX1_unlike_2 : decode cX1_unlike 2 = .ok (.iconst 0, 1) := by decide +kernel
theorem dX1_unlike_3 : decode cX1_unlike 3 = .ok (.istore_n 2, 1) := by decide +kernel
theorem dX1_unlike_4 : decode cX1_unlike 4 = .ok (.iload_n 2, 1) := by decide +kernel
theorem dX1_unlike_5 : decode cX1_unlike 5 = .ok (.bipush 16, 2) := by decide +kernel
theorem dX1_unlike_7 : decode cX1_unlike 7 = .ok (.if_icmp .ge 21, 3) := by decide +kernel
theorem dX1_unlike_10 : decode cX1_unlike 10 = .ok (.aload_n 0, 1) := by decide +kernel
theorem dX1_unlike_11 : decode cX1_unlike 11 = .ok (.getfield 18, 3) := by decide +kernel
theorem dX1_unlike_14 : decode cX1_unlike 14 = .ok (.iload_n 2, 1) := by decide +kernel
theorem dX1_unlike_15 : decode cX1_unlike 15 = .ok (.iaload, 1) := by decide +kernel
theorem dX1_unlike_16 : decode cX1_unlike 16 = .ok (.ifCond .le 6, 3) := by decide +kernel
theorem dX1_unlike_19 : decode cX1_unlike 19 = .ok (.iinc 1 1, 3) := by decide +kernel
theorem dX1_unlike_22 : decode cX1_unlike 22 = .ok (.iinc 2 1, 3) := by decide +kernel
theorem dX1_unlike_25 : decode cX1_unlike 25 = .ok (.goto (-21), 3) := by decide +kernel
theorem dX1_unlike_28 : decode cX1_unlike 28 = .ok (.iload_n 1, 1) := by decide +kernel
theorem dX1_unlike_29 : decode cX1_unlike 29 = .ok (.ireturn, 1) := by decide +kernel
theorem dX1_greatestGroup_0 : decode cX1_greatestGroup 0 = .ok (.iconst 0, 1) := by decide +kernel
theorem dX1_greatestGroup_1 : decode cX1_greatestGroup 1 = .ok (.istore_n 1, 1) := by decide +kernel
theorem dX1_greatestGroup_2 : decode cX1_greatestGroup 2 = .ok (.bipush (-5), 2) := by decide +kernel
theorem dX1_greatestGroup_4 : decode cX1_greatestGroup 4 = .ok (.istore_n 2, 1) := by decide +kernel
theorem dX1_greatestGroup_5 : decode cX1_greatestGroup 5 = .ok (.iconst 0, 1) := by decide +kernel
theorem dX1_greatestGroup_6 : decode cX1_greatestGroup 6 = .ok (.istore_n 3, 1) := by decide +kernel
theorem dX1_greatestGroup_7 : decode cX1_greatestGroup 7 = .ok (.iload_n 3, 1) := by decide +kernel
theorem dX1_greatestGroup_8 : decode cX1_greatestGroup 8 = .ok (.bipush 16, 2) := by decide +kernel
theorem dX1_greatestGroup_10 : decode cX1_greatestGroup 10 = .ok (.if_icmp .ge 28, 3) := by decide +kernel
theorem dX1_greatestGroup_13 : decode cX1_greatestGroup 13 = .ok (.aload_n 0, 1) := by decide +kernel
theorem dX1_greatestGroup_14 : decode cX1_greatestGroup 14 = .ok (.getfield 18, 3) := by decide +kernel
theorem dX1_greatestGroup_17 : decode cX1_greatestGroup 17 = .ok (.iload_n 3, 1) := by decide +kernel
theorem dX1_greatestGroup_18 : decode cX1_greatestGroup 18 = .ok (.iaload, 1) := by decide +kernel
theorem dX1_greatestGroup_19 : decode cX1_greatestGroup 19 = .ok (.iload_n 1, 1) := by decide +kernel
theorem dX1_greatestGroup_20 : decode cX1_greatestGroup 20 = .ok (.if_icmp .le 12, 3) := by decide +kernel
theorem dX1_greatestGroup_23 : decode cX1_greatestGroup 23 = .ok (.aload_n 0, 1) := by decide +kernel
theorem dX1_greatestGroup_24 : decode cX1_greatestGroup 24 = .ok (.getfield 18, 3) := by decide +kernel
theorem dX1_greatestGroup_27 : decode cX1_greatestGroup 27 = .ok (.iload_n 3, 1) := by decide +kernel
theorem dX1_greatestGroup_28 : decode cX1_greatestGroup 28 = .ok (.iaload, 1) := by decide +kernel
theorem dX1_greatestGroup_29 : decode cX1_greatestGroup 29 = .ok (.istore_n 1, 1) := by decide +kernel
theorem dX1_greatestGroup_30 : decode cX1_greatestGroup 30 = .ok (.iload_n 3, 1) := by decide +kernel
theorem dX1_greatestGroup_31 : decode cX1_greatestGroup 31 = .ok (.istore_n 2, 1) := by decide +kernel
theorem dX1_greatestGroup_32 : decode cX1_greatestGroup 32 = .ok (.iinc 3 1, 3) := by decide +kernel
theorem dX1_greatestGroup_35 : decode cX1_greatestGroup 35 = .ok (.goto (-28), 3) := by decide +kernel
theorem dX1_greatestGroup_38 : decode cX1_greatestGroup 38 = .ok (.iload_n 2, 1) := by decide +kernel
theorem dX1_greatestGroup_39 : decode cX1_greatestGroup 39 = .ok (.ireturn, 1) := by decide +kernel
theorem dX2_init_0 : decode cX2_init 0 = .ok (.aload_n 0, 1) := by decide +kernel
theorem dX2_init_1 : decode cX2_init 1 = .ok (.invokespecial 3, 3) := by decide +kernel
theorem dX2_init_4 : decode cX2_init 4 = .ok (.aload_n 0, 1) := by decide +kernel
theorem dX2_init_5 : decode cX2_init 5 = .ok (.iconst 0, 1) := by decide +kernel
theorem dX2_init_6 : decode cX2_init 6 = .ok (.putfield 9, 3) := by decide +kernel
theorem dX2_init_9 : decode cX2_init 9 = .ok (.aload_n 0, 1) := by decide +kernel
theorem dX2_init_10 : decode cX2_init 10 = .ok (.iload_n 1, 1) := by decide +kernel
theorem dX2_init_11 : decode cX2_init 11 = .ok (.putfield 15, 3) := by decide +kernel
theorem dX2_init_14 : decode cX2_init 14 = .ok (.aload_n 0, 1) := by decide +kernel
theorem dX2_init_15 : decode cX2_init 15 = .ok (.iload_n 1, 1) := by decide +kernel
theorem dX2_init_16 : decode cX2_init 16 = .ok (.newarray .int, 2) := by decide +kernel
theorem dX2_init_18 : decode cX2_init 18 = .ok (.putfield 18, 3) := by decide +kernel
theorem dX2_init_21 : decode cX2_init 21 = .ok (.aload_n 0, 1) := by decide +kernel
theorem dX2_init_22 : decode cX2_init 22 = .ok (.iload_n 1, 1) := by decide +kernel
theorem dX2_init_23 : decode cX2_init 23 = .ok (.newarray .int, 2) := by decide +kernel
theorem dX2_init_25 : decode cX2_init 25 = .ok (.putfield 22, 3) := by decide +kernel
theorem dX2_init_28 : decode cX2_init 28 = .ok (.return_, 1) := by decide +kernel
theorem dX2_append_0 : decode cX2_append 0 = .ok (.aload_n 0, 1) := by decide +kernel
theorem dX2_append_1 : decode cX2_append 1 = .ok (.getfield 9, 3) := by decide +kernel
theorem dX2_append_4 : decode cX2_append 4 = .ok (.aload_n 0, 1) := by decide +kernel
theorem dX2_append_5 : decode cX2_append 5 = .ok (.getfield 15, 3) := by decide +kernel
theorem dX2_append_8 : decode cX2_append 8 = .ok (.if_icmp .lt 6, 3) := by decide +kernel
theorem dX2_append_11 : decode cX2_append 11 = .ok (.bipush (-4), 2) := by decide +kernel
theorem dX2_append_13 : decode cX2_append 13 = .ok (.ireturn, 1) := by decide +kernel
theorem dX2_append_14 : decode cX2_append 14 = .ok (.aload_n 0, 1) := by decide +kernel
theorem dX2_append_15 : decode cX2_append 15 = .ok (.getfield 18, 3) := by decide +kernel
theorem dX2_append_18 : decode cX2_append 18 = .ok (.aload_n 0, 1) := by decide +kernel
theorem dX2_append_19 : decode cX2_append 19 = .ok (.getfield 9, 3) := by decide +kernel
theorem dX2_append_22 : decode cX2_append 22 = .ok (.iload_n 1, 1) := by decide +kernel
theorem dX2_append_23 : decode cX2_append 23 = .ok (.iastore, 1) := by decide +kernel
theorem dX2_append_24 : decode cX2_append 24 = .ok (.aload_n 0, 1) := by decide +kernel
theorem dX2_append_25 : decode cX2_append 25 = .ok (.getfield 22, 3) := by decide +kernel
theorem dX2_append_28 : decode cX2_append 28 = .ok (.aload_n 0, 1) := by decide +kernel
theorem dX2_append_29 : decode cX2_append 29 = .ok (.getfield 9, 3) := by decide +kernel
theorem dX2_append_32 : decode cX2_append 32 = .ok (.iload_n 2, 1) := by decide +kernel
theorem dX2_append_33 : decode cX2_append 33 = .ok (.iastore, 1) := by decide +kernel
theorem dX2_append_34 : decode cX2_append 34 = .ok (.aload_n 0, 1) := by decide +kernel
theorem dX2_append_35 : decode cX2_append 35 = .ok (.dup, 1) := by decide +kernel
theorem dX2_append_36 : decode cX2_append 36 = .ok (.getfield 9, 3) := by decide +kernel
theorem dX2_append_39 : decode cX2_append 39 = .ok (.iconst 1, 1) := by decide +kernel
theorem dX2_append_40 : decode cX2_append 40 = .ok (.iadd, 1) := by decide +kernel
theorem dX2_append_41 : decode cX2_append 41 = .ok (.putfield 9, 3) := by decide +kernel
theorem dX2_append_44 : decode cX2_append 44 = .ok (.aload_n 0, 1) := by decide +kernel
theorem dX2_append_45 : decode cX2_append 45 = .ok (.getfield 9, 3) := by decide +kernel
theorem dX2_append_48 : decode cX2_append 48 = .ok (.ireturn, 1) := by decide +kernel
theorem dX2_become_0 : decode cX2_become 0 = .ok (.aload_n 1, 1) := by decide +kernel
theorem dX2_become_1 : decode cX2_become 1 = .ok (.getfield 18, 3) := by decide +kernel
theorem dX2_become_4 : decode cX2_become 4 = .ok (.iconst 0, 1) := by decide +kernel
theorem dX2_become_5 : decode cX2_become 5 = .ok (.aload_n 0, 1) := by decide +kernel
theorem dX2_become_6 : decode cX2_become 6 = .ok (.getfield 18, 3) := by decide +kernel
theorem dX2_become_9 : decode cX2_become 9 = .ok (.iconst 0, 1) := by decide +kernel
theorem dX2_become_10 : decode cX2_become 10 = .ok (.aload_n 0, 1) := by decide +kernel
theorem dX2_become_11 : decode cX2_become 11 = .ok (.getfield 15, 3) := by decide +kernel
theorem dX2_become_14 : decode cX2_become 14 = .ok (.invokestatic 25, 3) := by decide +kernel
theorem dX2_become_17 : decode cX2_become 17 = .ok (.aload_n 1, 1) := by decide +kernel
theorem dX2_become_18 : decode cX2_become 18 = .ok (.getfield 22, 3) := by decide +kernel
theorem dX2_become_21 : decode cX2_become 21 = .ok (.iconst 0, 1) := by decide +kernel
theorem dX2_become_22 : decode cX2_become 22 = .ok (.aload_n 0, 1) := by decide +kernel
theorem dX2_become_23 : decode cX2_become 23 = .ok (.getfield 22, 3) := by decide +kernel
theorem dX2_become_26 : decode cX2_become 26 = .ok (.iconst 0, 1) := by decide +kernel
theorem dX2_become_27 : decode cX2_become 27 = .ok (.aload_n 0, 1) := by decide +kernel
theorem dX2_become_28 : decode cX2_become 28 = .ok (.getfield 15, 3) := by decide +kernel
theorem dX2_become_31 : decode cX2_become 31 = .ok (.invokestatic 25, 3) := by decide +kernel
theorem dX2_become_34 : decode cX2_become 34 = .ok (.aload_n 0, 1) := by decide +kernel
theorem dX2_become_35 : decode cX2_become 35 = .ok (.aload_n 1, 1) := by decide +kernel
theorem dX2_become_36 : decode cX2_become 36 = .ok (.getfield 9, 3) := by decide +kernel
theorem dX2_become_39 : decode cX2_become 39 = .ok (.putfield 9, 3) := by decide +kernel
theorem dX2_become_42 : decode cX2_become 42 = .ok (.return_, 1) := by decide +kernel
theorem dX3_init_0 : decode cX3_init 0 = .ok (.aload_n 0, 1) := by decide +kernel
theorem dX3_init_1 : decode cX3_init 1 = .ok (.invokespecial 3, 3) := by decide +kernel
theorem dX3_init_4 : decode cX3_init 4 = .ok (.aload_n 0, 1) := by decide +kernel
theorem dX3_init_5 : decode cX3_init 5 = .ok (.bipush 50, 2) := by decide +kernel
theorem dX3_init_7 : decode cX3_init 7 = .ok (.newarray .byte, 2) := by decide +kernel
theorem dX3_init_9 : decode cX3_init 9 = .ok (.putfield 9, 3) := by decide +kernel
theorem dX3_init_12 : decode cX3_init 12 = .ok (.aload_n 0, 1) := by decide +kernel
theorem dX3_init_13 : decode cX3_init 13 = .ok (.bipush 50, 2) := by decide +kernel
theorem dX3_init_15 : decode cX3_init 15 = .ok (.newarray .byte, 2) := by decide +kernel
theorem dX3_init_17 : decode cX3_init 17 = .ok (.putfield 15, 3) := by decide +kernel
theorem dX3_init_20 : decode cX3_init 20 = .ok (.aload_n 0, 1) := by decide +kernel
theorem dX3_init_21 : decode cX3_init 21 = .ok (.bipush 50, 2) := by decide +kernel
theorem dX3_init_23 : decode cX3_init 23 = .ok (.newarray .byte, 2) := by decide +kernel
theorem dX3_init_25 : decode cX3_init 25 = .ok (.putfield 18, 3) := by decide +kernel
theorem dX3_init_28 : decode cX3_init 28 = .ok (.aload_n 0, 1) := by decide +kernel
theorem dX3_init_29 : decode cX3_init 29 = .ok (.bipush 50, 2) := by decide +kernel
theorem dX3_init_31 : decode cX3_init 31 = .ok (.newarray .byte, 2) := by decide +kernel
theorem dX3_init_33 : decode cX3_init 33 = .ok (.putfield 21, 3) := by decide +kernel
theorem dX3_init_36 : decode cX3_init 36 = .ok (.aload_n 0, 1) := by decide +kernel
theorem dX3_init_37 : decode cX3_init 37 = .ok (.iconst 0, 1) := by decide +kernel
theorem dX3_init_38 : decode cX3_init 38 = .ok (.putfield 24, 3) := by decide +kernel
theorem dX3_init_41 : decode cX3_init 41 = .ok (.return_, 1) := by decide +kernel
theorem dX3_appendJoin_0 : decode cX3_appendJoin 0 = .ok (.aload_n 0, 1) := by decide +kernel
theorem dX3_appendJoin_1 : decode cX3_appendJoin 1 = .ok (.iload_n 1, 1) := by decide +kernel
theorem dX3_appendJoin_2 : decode cX3_appendJoin 2 = .ok (.iconst 0, 1) := by decide +kernel
theorem dX3_appendJoin_3 : decode cX3_appendJoin 3 = .ok (.iconst 0, 1) := by decide +kernel
theorem dX3_appendJoin_4 : decode cX3_appendJoin 4 = .ok (.iconst 0, 1) := by decide +kernel
theorem dX3_appendJoin_5 : decode cX3_appendJoin 5 = .ok (.invokevirtual 28, 3) := by decide +kernel
theorem dX3_appendJoin_8 : decode cX3_appendJoin 8 = .ok (.return_, 1) := by decide +kernel
theorem dX3_appendLeaf_0 : decode cX3_appendLeaf 0 = .ok (.aload_n 0, 1) := by decide +kernel
theorem dX3_appendLeaf_1 : decode cX3_appendLeaf 1 = .ok (.getfield 24, 3) := by decide +kernel
theorem dX3_appendLeaf_4 : decode cX3_appendLeaf 4 = .ok (.bipush 50, 2) := by decide +kernel
theorem dX3_appendLeaf_6 : decode cX3_appendLeaf 6 = .ok (.if_icmp .lt 4, 3) := by decide +kernel
theorem dX3_appendLeaf_9 : decode cX3_appendLeaf 9 = .ok (.return_, 1) := by decide +kernel
theorem dX3_appendLeaf_10 : decode cX3_appendLeaf 10 = .ok (.aload_n 0, 1) := by decide +kernel
theorem dX3_appendLeaf_11 : decode cX3_appendLeaf 11 = .ok (.getfield 9, 3) := by decide +kernel
theorem dX3_appendLeaf_14 : decode cX3_appendLeaf 14 = .ok (.aload_n 0, 1) := by decide +kernel
theorem dX3_appendLeaf_15 : decode cX3_appendLeaf 15 = .ok (.getfield 24, 3) := by decide +kernel
theorem dX3_appendLeaf_18 : decode cX3_appendLeaf 18 = .ok (.iload_n 1, 1) := by decide +kernel
theorem dX3_appendLeaf_19 : decode cX3_appendLeaf 19 = .ok (.i2b, 1) := by decide +kernel
theorem dX3_appendLeaf_20 : decode cX3_appendLeaf 20 = .ok (.bastore, 1) := by decide +kernel
theorem dX3_appendLeaf_21 : decode cX3_appendLeaf 21 = .ok (.aload_n 0, 1) := by decide +kernel
theorem dX3_appendLeaf_22 : decode cX3_appendLeaf 22 = .ok (.getfield 15, 3) := by decide +kernel
theorem dX3_appendLeaf_25 : decode cX3_appendLeaf 25 = .ok (.aload_n 0, 1) := by decide +kernel
theorem dX3_appendLeaf_26 : decode cX3_appendLeaf 26 = .ok (.getfield 24, 3) := by decide +kernel
theorem dX3_appendLeaf_29 : decode cX3_appendLeaf 29 = .ok (.iload_n 2, 1) := by decide +kernel
theorem dX3_appendLeaf_30 : decode cX3_appendLeaf 30 = .ok (.i2b, 1) := by decide +kernel
theorem dX3_appendLeaf_31 : decode cX3_appendLeaf 31 = .ok (.bastore, 1) := by decide +kernel
theorem dX3_appendLeaf_32 : decode cX3_appendLeaf 32 = .ok (.aload_n 0, 1) := by decide +kernel
theorem dX3_appendLeaf_33 : decode cX3_appendLeaf 33 = .ok (.getfield 18, 3) := by decide +kernel
theorem dX3_appendLeaf_36 : decode cX3_appendLeaf 36 = .ok (.aload_n 0, 1) := by decide +kernel
theorem dX3_appendLeaf_37 : decode cX3_appendLeaf 37 = .ok (.getfield 24, 3) := by decide +kernel
theorem dX3_appendLeaf_40 : decode cX3_appendLeaf 40 = .ok (.iload_n 3, 1) := by decide +kernel
theorem dX3_appendLeaf_41 : decode cX3_appendLeaf 41 = .ok (.i2b, 1) := by decide +kernel
theorem dX3_appendLeaf_42 : decode cX3_appendLeaf 42 = .ok (.bastore, 1) := by decide +kernel
theorem dX3_appendLeaf_43 : decode cX3_appendLeaf 43 = .ok (.aload_n 0, 1) := by decide +kernel
theorem dX3_appendLeaf_44 : decode cX3_appendLeaf 44 = .ok (.getfield 21, 3) := by decide +kernel
theorem dX3_appendLeaf_47 : decode cX3_appendLeaf 47 = .ok (.aload_n 0, 1) := by decide +kernel
theorem dX3_appendLeaf_48 : decode cX3_appendLeaf 48 = .ok (.getfield 24, 3) := by decide +kernel
theorem dX3_appendLeaf_51 : decode cX3_appendLeaf 51 = .ok (.iload 4, 2) := by decide +kernel
theorem dX3_appendLeaf_53 : decode cX3_appendLeaf 53 = .ok (.i2b, 1) := by decide +kernel
theorem dX3_appendLeaf_54 : decode cX3_appendLeaf 54 = .ok (.bastore, 1) := by decide +kernel
theorem dX3_appendLeaf_55 : decode cX3_appendLeaf 55 = .ok (.aload_n 0, 1) := by decide +kernel
theorem dX3_appendLeaf_56 : decode cX3_appendLeaf 56 = .ok (.dup, 1) := by decide +kernel
theorem dX3_appendLeaf_57 : decode cX3_appendLeaf 57 = .ok (.getfield 24, 3) := by decide +kernel
theorem dX3_appendLeaf_60 : decode cX3_appendLeaf 60 = .ok (.iconst 1, 1) := by decide +kernel
theorem dX3_appendLeaf_61 : decode cX3_appendLeaf 61 = .ok (.iadd, 1) := by decide +kernel
theorem dX3_appendLeaf_62 : decode cX3_appendLeaf 62 = .ok (.putfield 24, 3) := by decide +kernel
theorem dX3_appendLeaf_65 : decode cX3_appendLeaf 65 = .ok (.return_, 1) := by decide +kernel
theorem dX3_lastSort_0 : decode cX3_lastSort 0 = .ok (.aload_n 0, 1) := by decide +kernel
theorem dX3_lastSort_1 : decode cX3_lastSort 1 = .ok (.getfield 24, 3) := by decide +kernel
theorem dX3_lastSort_4 : decode cX3_lastSort 4 = .ok (.ifCond .ne 7, 3) := by decide +kernel
theorem dX3_lastSort_7 : decode cX3_lastSort 7 = .ok (.iconst 0, 1) := by decide +kernel
theorem dX3_lastSort_8 : decode cX3_lastSort 8 = .ok (.goto 14, 3) := by decide +kernel
theorem dX3_lastSort_11 : decode cX3_lastSort 11 = .ok (.aload_n 0, 1) := by decide +kernel
theorem dX3_lastSort_12 : decode cX3_lastSort 12 = .ok (.getfield 9, 3) := by decide +kernel
theorem dX3_lastSort_15 : decode cX3_lastSort 15 = .ok (.aload_n 0, 1) := by decide +kernel
theorem dX3_lastSort_16 : decode cX3_lastSort 16 = .ok (.getfield 24, 3) := by decide +kernel
theorem dX3_lastSort_19 : decode cX3_lastSort 19 = .ok (.iconst 1, 1) := by decide +kernel
theorem dX3_lastSort_20 : decode cX3_lastSort 20 = .ok (.isub, 1) := by decide +kernel
theorem dX3_lastSort_21 : decode cX3_lastSort 21 = .ok (.baload, 1) := by decide +kernel
theorem dX3_lastSort_22 : decode cX3_lastSort 22 = .ok (.ireturn, 1) := by decide +kernel
theorem dX3_stepsBetween_0 : decode cX3_stepsBetween 0 = .ok (.iconst 0, 1) := by decide +kernel
theorem dX3_stepsBetween_1 : decode cX3_stepsBetween 1 = .ok (.istore_n 3, 1) := by decide +kernel
theorem dX3_stepsBetween_2 : decode cX3_stepsBetween 2 = .ok (.iconst 0, 1) := by decide +kernel
theorem dX3_stepsBetween_3 : decode cX3_stepsBetween 3 = .ok (.istore 4, 2) := by decide +kernel
theorem dX3_stepsBetween_5 : decode cX3_stepsBetween 5 = .ok (.iload 4, 2) := by decide +kernel
theorem dX3_stepsBetween_7 : decode cX3_stepsBetween 7 = .ok (.aload_n 0, 1) := by decide +kernel
theorem dX3_stepsBetween_8 : decode cX3_stepsBetween 8 = .ok (.getfield 24, 3) := by decide +kernel
theorem dX3_stepsBetween_11 : decode cX3_stepsBetween 11 = .ok (.if_icmp .ge 34, 3) := by decide +kernel
theorem dX3_stepsBetween_14 : decode cX3_stepsBetween 14 = .ok (.aload_n 0, 1) := by decide +kernel
theorem dX3_stepsBetween_15 : decode cX3_stepsBetween 15 = .ok (.getfield 9, 3) := by decide +kernel
theorem dX3_stepsBetween_18 : decode cX3_stepsBetween 18 = .ok (.iload 4, 2) := by decide +kernel
theorem dX3_stepsBetween_20 : decode cX3_stepsBetween 20 = .ok (.baload, 1) := by decide +kernel
theorem dX3_stepsBetween_21 : decode cX3_stepsBetween 21 = .ok (.iload_n 1, 1) := by decide +kernel
theorem dX3_stepsBetween_22 : decode cX3_stepsBetween 22 = .ok (.if_icmp .lt 17, 3) := by decide +kernel
theorem dX3_stepsBetween_25 : decode cX3_stepsBetween 25 = .ok (.aload_n 0, 1) := by decide +kernel
theorem dX3_stepsBetween_26 : decode cX3_stepsBetween 26 = .ok (.getfield 9, 3) := by decide +kernel
theorem dX3_stepsBetween_29 : decode cX3_stepsBetween 29 = .ok (.iload 4, 2) := by decide +kernel
theorem dX3_stepsBetween_31 : decode cX3_stepsBetween 31 = .ok (.baload, 1) := by decide +kernel
theorem dX3_stepsBetween_32 : decode cX3_stepsBetween 32 = .ok (.iload_n 2, 1) := by decide +kernel
theorem dX3_stepsBetween_33 : decode cX3_stepsBetween 33 = .ok (.if_icmp .gt 6, 3) := by decide +kernel
theorem dX3_stepsBetween_36 : decode cX3_stepsBetween 36 = .ok (.iinc 3 1, 3) := by decide +kernel
theorem dX3_stepsBetween_39 : decode cX3_stepsBetween 39 = .ok (.iinc 4 1, 3) := by decide +kernel
theorem dX3_stepsBetween_42 : decode cX3_stepsBetween 42 = .ok (.goto (-37), 3) := by decide +kernel
theorem dX3_stepsBetween_45 : decode cX3_stepsBetween 45 = .ok (.iload_n 3, 1) := by decide +kernel
theorem dX3_stepsBetween_46 : decode cX3_stepsBetween 46 = .ok (.ireturn, 1) := by decide +kernel
theorem dX4_init_0 : decode cX4_init 0 = .ok (.aload_n 0, 1) := by decide +kernel
theorem dX4_init_1 : decode cX4_init 1 = .ok (.invokespecial 3, 3) := by decide +kernel
theorem dX4_init_4 : decode cX4_init 4 = .ok (.aload_n 0, 1) := by decide +kernel
theorem dX4_init_5 : decode cX4_init 5 = .ok (.bipush 100, 2) := by decide +kernel
theorem dX4_init_7 : decode cX4_init 7 = .ok (.newarray .byte, 2) := by decide +kernel
theorem dX4_init_9 : decode cX4_init 9 = .ok (.putfield 9, 3) := by decide +kernel
theorem dX4_init_12 : decode cX4_init 12 = .ok (.aload_n 0, 1) := by decide +kernel
theorem dX4_init_13 : decode cX4_init 13 = .ok (.iconst 0, 1) := by decide +kernel
theorem dX4_init_14 : decode cX4_init 14 = .ok (.putfield 15, 3) := by decide +kernel
theorem dX4_init_17 : decode cX4_init 17 = .ok (.aload_n 0, 1) := by decide +kernel
theorem dX4_init_18 : decode cX4_init 18 = .ok (.iconst 0, 1) := by decide +kernel
theorem dX4_init_19 : decode cX4_init 19 = .ok (.putfield 19, 3) := by decide +kernel
theorem dX4_init_22 : decode cX4_init 22 = .ok (.aload_n 0, 1) := by decide +kernel
theorem dX4_init_23 : decode cX4_init 23 = .ok (.iconst (-1), 1) := by decide +kernel
theorem dX4_init_24 : decode cX4_init 24 = .ok (.putfield 22, 3) := by decide +kernel
theorem dX4_init_27 : decode cX4_init 27 = .ok (.return_, 1) := by decide +kernel
theorem dX4_append_0 : decode cX4_append 0 = .ok (.aload_n 0, 1) := by decide +kernel
theorem dX4_append_1 : decode cX4_append 1 = .ok (.getfield 15, 3) := by decide +kernel
theorem dX4_append_4 : decode cX4_append 4 = .ok (.bipush 100, 2) := by decide +kernel
theorem dX4_append_6 : decode cX4_append 6 = .ok (.if_icmp .ge 24, 3) := by decide +kernel
theorem dX4_append_9 : decode cX4_append 9 = .ok (.aload_n 0, 1) := by decide +kernel
theorem dX4_append_10 : decode cX4_append 10 = .ok (.getfield 9, 3) := by decide +kernel
theorem dX4_append_13 : decode cX4_append 13 = .ok (.aload_n 0, 1) := by decide +kernel
theorem dX4_append_14 : decode cX4_append 14 = .ok (.getfield 15, 3) := by decide +kernel
theorem dX4_append_17 : decode cX4_append 17 = .ok (.iload_n 1, 1) := by decide +kernel
theorem dX4_append_18 : decode cX4_append 18 = .ok (.i2b, 1) := by decide +kernel
theorem dX4_append_19 : decode cX4_append 19 = .ok (.bastore, 1) := by decide +kernel
theorem dX4_append_20 : decode cX4_append 20 = .ok (.aload_n 0, 1) := by decide +kernel
theorem dX4_append_21 : decode cX4_append 21 = .ok (.dup, 1) := by decide +kernel
theorem dX4_append_22 : decode cX4_append 22 = .ok (.getfield 15, 3) := by decide +kernel
theorem dX4_append_25 : decode cX4_append 25 = .ok (.iconst 1, 1) := by decide +kernel
theorem dX4_append_26 : decode cX4_append 26 = .ok (.iadd, 1) := by decide +kernel
theorem dX4_append_27 : decode cX4_append 27 = .ok (.putfield 15, 3) := by decide +kernel
theorem dX4_append_30 : decode cX4_append 30 = .ok (.return_, 1) := by decide +kernel
theorem dX4_readInto_0 : decode cX4_readInto 0 = .ok (.aload_n 1, 1) := by decide +kernel
theorem dX4_readInto_1 : decode cX4_readInto 1 = .ok (.iconst 0, 1) := by decide +kernel
theorem dX4_readInto_2 : decode cX4_readInto 2 = .ok (.putfield 25, 3) := by decide +kernel
theorem dX4_readInto_5 : decode cX4_readInto 5 = .ok (.aload_n 0, 1) := by decide +kernel
theorem dX4_readInto_6 : decode cX4_readInto 6 = .ok (.iconst 0, 1) := by decide +kernel
theorem dX4_readInto_7 : decode cX4_readInto 7 = .ok (.putfield 19, 3) := by decide +kernel
theorem dX4_readInto_10 : decode cX4_readInto 10 = .ok (.aload_n 0, 1) := by decide +kernel
theorem dX4_readInto_11 : decode cX4_readInto 11 = .ok (.iconst (-1), 1) := by decide +kernel
theorem dX4_readInto_12 : decode cX4_readInto 12 = .ok (.putfield 22, 3) := by decide +kernel
theorem dX4_readInto_15 : decode cX4_readInto 15 = .ok (.aload_n 0, 1) := by decide +kernel
theorem dX4_readInto_16 : decode cX4_readInto 16 = .ok (.aload_n 1, 1) := by decide +kernel
theorem dX4_readInto_17 : decode cX4_readInto 17 = .ok (.iconst 0, 1) := by decide +kernel
theorem dX4_readInto_18 : decode cX4_readInto 18 = .ok (.invokevirtual 30, 3) := by decide +kernel
theorem dX4_readInto_21 : decode cX4_readInto 21 = .ok (.aload_n 0, 1) := by decide +kernel
theorem dX4_readInto_22 : decode cX4_readInto 22 = .ok (.getfield 19, 3) := by decide +kernel
theorem dX4_readInto_25 : decode cX4_readInto 25 = .ok (.aload_n 0, 1) := by decide +kernel
theorem dX4_readInto_26 : decode cX4_readInto 26 = .ok (.getfield 15, 3) := by decide +kernel
theorem dX4_readInto_29 : decode cX4_readInto 29 = .ok (.if_icmp .ge 7, 3) := by decide +kernel
theorem dX4_readInto_32 : decode cX4_readInto 32 = .ok (.aload_n 0, 1) := by decide +kernel
theorem dX4_readInto_33 : decode cX4_readInto 33 = .ok (.invokevirtual 34, 3) := by decide +kernel
theorem dX4_readInto_36 : decode cX4_readInto 36 = .ok (.aload_n 0, 1) := by decide +kernel
theorem dX4_readInto_37 : decode cX4_readInto 37 = .ok (.getfield 22, 3) := by decide +kernel
theorem dX4_readInto_40 : decode cX4_readInto 40 = .ok (.ireturn, 1) := by decide +kernel
theorem dX4_readEither_0 : decode cX4_readEither 0 = .ok (.aload_n 0, 1) := by decide +kernel
theorem dX4_readEither_1 : decode cX4_readEither 1 = .ok (.aload_n 1, 1) := by decide +kernel
theorem dX4_readEither_2 : decode cX4_readEither 2 = .ok (.iload_n 2, 1) := by decide +kernel
theorem dX4_readEither_3 : decode cX4_readEither 3 = .ok (.invokevirtual 37, 3) := by decide +kernel
theorem dX4_readEither_6 : decode cX4_readEither 6 = .ok (.iconst 0, 1) := by decide +kernel
theorem dX4_readEither_7 : decode cX4_readEither 7 = .ok (.istore_n 3, 1) := by decide +kernel
theorem dX4_readEither_8 : decode cX4_readEither 8 = .ok (.iload_n 3, 1) := by decide +kernel
theorem dX4_readEither_9 : decode cX4_readEither 9 = .ok (.bipush 100, 2) := by decide +kernel
theorem dX4_readEither_11 : decode cX4_readEither 11 = .ok (.if_icmp .ge 36, 3) := by decide +kernel
theorem dX4_readEither_14 : decode cX4_readEither 14 = .ok (.aload_n 0, 1) := by decide +kernel
theorem dX4_readEither_15 : decode cX4_readEither 15 = .ok (.ldc 40, 2) := by decide +kernel
theorem dX4_readEither_17 : decode cX4_readEither 17 = .ok (.invokevirtual 42, 3) := by decide +kernel
theorem dX4_readEither_20 : decode cX4_readEither 20 = .ok (.ifCond .eq 27, 3) := by decide +kernel
theorem dX4_readEither_23 : decode cX4_readEither 23 = .ok (.aload_n 0, 1) := by decide +kernel
theorem dX4_readEither_24 : decode cX4_readEither 24 = .ok (.ldc 40, 2) := by decide +kernel
theorem dX4_readEither_26 : decode cX4_readEither 26 = .ok (.invokevirtual 46, 3) := by decide +kernel
theorem dX4_readEither_29 : decode cX4_readEither 29 = .ok (.aload_n 0, 1) := by decide +kernel
theorem dX4_readEither_30 : decode cX4_readEither 30 = .ok (.aload_n 1, 1) := by decide +kernel
theorem dX4_readEither_31 : decode cX4_readEither 31 = .ok (.iload_n 2, 1) := by decide +kernel
theorem dX4_readEither_32 : decode cX4_readEither 32 = .ok (.invokevirtual 37, 3) := by decide +kernel
theorem dX4_readEither_35 : decode cX4_readEither 35 = .ok (.aload_n 1, 1) := by decide +kernel
theorem dX4_readEither_36 : decode cX4_readEither 36 = .ok (.bipush 6, 2) := by decide +kernel
theorem dX4_readEither_38 : decode cX4_readEither 38 = .ok (.invokevirtual 50, 3) := by decide +kernel
theorem dX4_readEither_41 : decode cX4_readEither 41 = .ok (.iinc 3 1, 3) := by decide +kernel
theorem dX4_readEither_44 : decode cX4_readEither 44 = .ok (.goto (-36), 3) := by decide +kernel
theorem dX4_readEither_47 : decode cX4_readEither 47 = .ok (.return_, 1) := by decide +kernel
theorem dX4_readBoth_0 : decode cX4_readBoth 0 = .ok (.aload_n 0, 1) := by decide +kernel
theorem dX4_readBoth_1 : decode cX4_readBoth 1 = .ok (.aload_n 1, 1) := by decide +kernel
theorem dX4_readBoth_2 : decode cX4_readBoth 2 = .ok (.iload_n 2, 1) := by decide +kernel
theorem dX4_readBoth_3 : decode cX4_readBoth 3 = .ok (.invokevirtual 54, 3) := by decide +kernel
theorem dX4_readBoth_6 : decode cX4_readBoth 6 = .ok (.iconst 0, 1) := by decide +kernel
theorem dX4_readBoth_7 : decode cX4_readBoth 7 = .ok (.istore_n 3, 1) := by decide +kernel
theorem dX4_readBoth_8 : decode cX4_readBoth 8 = .ok (.iload_n 3, 1) := by decide +kernel
theorem dX4_readBoth_9 : decode cX4_readBoth 9 = .ok (.bipush 100, 2) := by decide +kernel
theorem dX4_readBoth_11 : decode cX4_readBoth 11 = .ok (.if_icmp .ge 35, 3) := by decide +kernel
theorem dX4_readBoth_14 : decode cX4_readBoth 14 = .ok (.aload_n 0, 1) := by decide +kernel
theorem dX4_readBoth_15 : decode cX4_readBoth 15 = .ok (.ldc 57, 2) := by decide +kernel
theorem dX4_readBoth_17 : decode cX4_readBoth 17 = .ok (.invokevirtual 42, 3) := by decide +kernel
theorem dX4_readBoth_20 : decode cX4_readBoth 20 = .ok (.ifCond .eq 26, 3) := by decide +kernel
theorem dX4_readBoth_23 : decode cX4_readBoth 23 = .ok (.aload_n 0, 1) := by decide +kernel
theorem dX4_readBoth_24 : decode cX4_readBoth 24 = .ok (.ldc 57, 2) := by decide +kernel
theorem dX4_readBoth_26 : decode cX4_readBoth 26 = .ok (.invokevirtual 46, 3) := by decide +kernel
theorem dX4_readBoth_29 : decode cX4_readBoth 29 = .ok (.aload_n 0, 1) := by decide +kernel
theorem dX4_readBoth_30 : decode cX4_readBoth 30 = .ok (.aload_n 1, 1) := by decide +kernel
theorem dX4_readBoth_31 : decode cX4_readBoth 31 = .ok (.iload_n 2, 1) := by decide +kernel
theorem dX4_readBoth_32 : decode cX4_readBoth 32 = .ok (.invokevirtual 54, 3) := by decide +kernel
theorem dX4_readBoth_35 : decode cX4_readBoth 35 = .ok (.aload_n 1, 1) := by decide +kernel
theorem dX4_readBoth_36 : decode cX4_readBoth 36 = .ok (.iconst 5, 1) := by decide +kernel
theorem dX4_readBoth_37 : decode cX4_readBoth 37 = .ok (.invokevirtual 50, 3) := by decide +kernel
theorem dX4_readBoth_40 : decode cX4_readBoth 40 = .ok (.iinc 3 1, 3) := by decide +kernel
theorem dX4_readBoth_43 : decode cX4_readBoth 43 = .ok (.goto (-35), 3) := by decide +kernel
theorem dX4_readBoth_46 : decode cX4_readBoth 46 = .ok (.return_, 1) := by decide +kernel
theorem dX4_readFactor_0 : decode cX4_readFactor 0 = .ok (.aload_n 0, 1) := by decide +kernel
theorem dX4_readFactor_1 : decode cX4_readFactor 1 = .ok (.getfield 22, 3) := by decide +kernel
theorem dX4_readFactor_4 : decode cX4_readFactor 4 = .ok (.iconst (-1), 1) := by decide +kernel
theorem dX4_readFactor_5 : decode cX4_readFactor 5 = .ok (.if_icmp .eq 4, 3) := by decide +kernel
theorem dX4_readFactor_8 : decode cX4_readFactor 8 = .ok (.return_, 1) := by decide +kernel
theorem dX4_readFactor_9 : decode cX4_readFactor 9 = .ok (.aload_n 0, 1) := by decide +kernel
theorem dX4_readFactor_10 : decode cX4_readFactor 10 = .ok (.aload_n 0, 1) := by decide +kernel
theorem dX4_readFactor_11 : decode cX4_readFactor 11 = .ok (.getfield 19, 3) := by decide +kernel
theorem dX4_readFactor_14 : decode cX4_readFactor 14 = .ok (.ldc 59, 2) := by decide +kernel
theorem dX4_readFactor_16 : decode cX4_readFactor 16 = .ok (.invokevirtual 61, 3) := by decide +kernel
theorem dX4_readFactor_19 : decode cX4_readFactor 19 = .ok (.istore_n 3, 1) := by decide +kernel
theorem dX4_readFactor_20 : decode cX4_readFactor 20 = .ok (.aload_n 0, 1) := by decide +kernel
theorem dX4_readFactor_21 : decode cX4_readFactor 21 = .ok (.aload_n 0, 1) := by decide +kernel
theorem dX4_readFactor_22 : decode cX4_readFactor 22 = .ok (.getfield 19, 3) := by decide +kernel
theorem dX4_readFactor_25 : decode cX4_readFactor 25 = .ok (.invokevirtual 65, 3) := by decide +kernel
theorem dX4_readFactor_28 : decode cX4_readFactor 28 = .ok (.bipush 40, 2) := by decide +kernel
theorem dX4_readFactor_30 : decode cX4_readFactor 30 = .ok (.if_icmp .ne 7, 3) := by decide +kernel
theorem dX4_readFactor_33 : decode cX4_readFactor 33 = .ok (.iconst 1, 1) := by decide +kernel
theorem dX4_readFactor_34 : decode cX4_readFactor 34 = .ok (.goto 4, 3) := by decide +kernel
theorem dX4_readFactor_37 : decode cX4_readFactor 37 = .ok (.iconst 0, 1) := by decide +kernel
theorem dX4_readFactor_38 : decode cX4_readFactor 38 = .ok (.istore 4, 2) := by decide +kernel
theorem dX4_readFactor_40 : decode cX4_readFactor 40 = .ok (.iload_n 3, 1) := by decide +kernel
theorem dX4_readFactor_41 : decode cX4_readFactor 41 = .ok (.ifCond .ne 8, 3) := by decide +kernel
theorem dX4_readFactor_44 : decode cX4_readFactor 44 = .ok (.iload 4, 2) := by decide +kernel
theorem dX4_readFactor_46 : decode cX4_readFactor 46 = .ok (.ifCond .eq 20, 3) := by decide +kernel
theorem dX4_readFactor_49 : decode cX4_readFactor 49 = .ok (.iload_n 2, 1) := by decide +kernel
theorem dX4_readFactor_50 : decode cX4_readFactor 50 = .ok (.bipush 6, 2) := by decide +kernel
theorem dX4_readFactor_52 : decode cX4_readFactor 52 = .ok (.if_icmp .lt 14, 3) := by decide +kernel
theorem dX4_readFactor_55 : decode cX4_readFactor 55 = .ok (.aload_n 0, 1) := by decide +kernel
theorem dX4_readFactor_56 : decode cX4_readFactor 56 = .ok (.aload_n 0, 1) := by decide +kernel
theorem dX4_readFactor_57 : decode cX4_readFactor 57 = .ok (.getfield 19, 3) := by decide +kernel
theorem dX4_readFactor_60 : decode cX4_readFactor 60 = .ok (.invokevirtual 69, 3) := by decide +kernel
theorem dX4_readFactor_63 : decode cX4_readFactor 63 = .ok (.goto 96, 3) := by decide +kernel
theorem dX4_readFactor_66 : decode cX4_readFactor 66 = .ok (.iload_n 3, 1) := by decide +kernel
theorem dX4_readFactor_67 : decode cX4_readFactor 67 = .ok (.ifCond .eq 31, 3) := by decide +kernel
theorem dX4_readFactor_70 : decode cX4_readFactor 70 = .ok (.aload_n 0, 1) := by decide +kernel
theorem dX4_readFactor_71 : decode cX4_readFactor 71 = .ok (.ldc 59, 2) := by decide +kernel
theorem dX4_readFactor_73 : decode cX4_readFactor 73 = .ok (.invokevirtual 72, 3) := by decide +kernel
theorem dX4_readFactor_76 : decode cX4_readFactor 76 = .ok (.aload_n 0, 1) := by decide +kernel
theorem dX4_readFactor_77 : decode cX4_readFactor 77 = .ok (.bipush 32, 2) := by decide +kernel
theorem dX4_readFactor_79 : decode cX4_readFactor 79 = .ok (.invokevirtual 75, 3) := by decide +kernel
theorem dX4_readFactor_82 : decode cX4_readFactor 82 = .ok (.aload_n 0, 1) := by decide +kernel
theorem dX4_readFactor_83 : decode cX4_readFactor 83 = .ok (.aload_n 1, 1) := by decide +kernel
theorem dX4_readFactor_84 : decode cX4_readFactor 84 = .ok (.iload_n 2, 1) := by decide +kernel
theorem dX4_readFactor_85 : decode cX4_readFactor 85 = .ok (.iconst 1, 1) := by decide +kernel
theorem dX4_readFactor_86 : decode cX4_readFactor 86 = .ok (.iadd, 1) := by decide +kernel
theorem dX4_readFactor_87 : decode cX4_readFactor 87 = .ok (.invokevirtual 54, 3) := by decide +kernel
theorem dX4_readFactor_90 : decode cX4_readFactor 90 = .ok (.aload_n 1, 1) := by decide +kernel
theorem dX4_readFactor_91 : decode cX4_readFactor 91 = .ok (.iconst 4, 1) := by decide +kernel
theorem dX4_readFactor_92 : decode cX4_readFactor 92 = .ok (.invokevirtual 50, 3) := by decide +kernel
theorem dX4_readFactor_95 : decode cX4_readFactor 95 = .ok (.goto 64, 3) := by decide +kernel
theorem dX4_readFactor_98 : decode cX4_readFactor 98 = .ok (.iload 4, 2) := by decide +kernel
theorem dX4_readFactor_100 : decode cX4_readFactor 100 = .ok (.ifCond .eq 24, 3) := by decide +kernel
theorem dX4_readFactor_103 : decode cX4_readFactor 103 = .ok (.aload_n 0, 1) := by decide +kernel
theorem dX4_readFactor_104 : decode cX4_readFactor 104 = .ok (.bipush 40, 2) := by decide +kernel
theorem dX4_readFactor_106 : decode cX4_readFactor 106 = .ok (.invokevirtual 75, 3) := by decide +kernel
theorem dX4_readFactor_109 : decode cX4_readFactor 109 = .ok (.aload_n 0, 1) := by decide +kernel
theorem dX4_readFactor_110 : decode cX4_readFactor 110 = .ok (.aload_n 1, 1) := by decide +kernel
theorem dX4_readFactor_111 : decode cX4_readFactor 111 = .ok (.iload_n 2, 1) := by decide +kernel
theorem dX4_readFactor_112 : decode cX4_readFactor 112 = .ok (.iconst 1, 1) := by decide +kernel
theorem dX4_readFactor_113 : decode cX4_readFactor 113 = .ok (.iadd, 1) := by decide +kernel
theorem dX4_readFactor_114 : decode cX4_readFactor 114 = .ok (.invokevirtual 30, 3) := by decide +kernel
theorem dX4_readFactor_117 : decode cX4_readFactor 117 = .ok (.aload_n 0, 1) := by decide +kernel
theorem dX4_readFactor_118 : decode cX4_readFactor 118 = .ok (.invokevirtual 79, 3) := by decide +kernel
theorem dX4_readFactor_121 : decode cX4_readFactor 121 = .ok (.goto 38, 3) := by decide +kernel
theorem dX4_readFactor_124 : decode cX4_readFactor 124 = .ok (.aload_n 0, 1) := by decide +kernel
theorem dX4_readFactor_125 : decode cX4_readFactor 125 = .ok (.aload_n 0, 1) := by decide +kernel
theorem dX4_readFactor_126 : decode cX4_readFactor 126 = .ok (.getfield 19, 3) := by decide +kernel
theorem dX4_readFactor_129 : decode cX4_readFactor 129 = .ok (.ldc 82, 2) := by decide +kernel
theorem dX4_readFactor_131 : decode cX4_readFactor 131 = .ok (.invokevirtual 61, 3) := by decide +kernel
theorem dX4_readFactor_134 : decode cX4_readFactor 134 = .ok (.ifCond .eq 20, 3) := by decide +kernel
theorem dX4_readFactor_137 : decode cX4_readFactor 137 = .ok (.aload_n 0, 1) := by decide +kernel
theorem dX4_readFactor_138 : decode cX4_readFactor 138 = .ok (.ldc 82, 2) := by decide +kernel
theorem dX4_readFactor_140 : decode cX4_readFactor 140 = .ok (.invokevirtual 72, 3) := by decide +kernel
theorem dX4_readFactor_143 : decode cX4_readFactor 143 = .ok (.aload_n 1, 1) := by decide +kernel
theorem dX4_readFactor_144 : decode cX4_readFactor 144 = .ok (.iconst 0, 1) := by decide +kernel
theorem dX4_readFactor_145 : decode cX4_readFactor 145 = .ok (.iconst 0, 1) := by decide +kernel
theorem dX4_readFactor_146 : decode cX4_readFactor 146 = .ok (.iconst 0, 1) := by decide +kernel
theorem dX4_readFactor_147 : decode cX4_readFactor 147 = .ok (.iconst 0, 1) := by decide +kernel
theorem dX4_readFactor_148 : decode cX4_readFactor 148 = .ok (.invokevirtual 84, 3) := by decide +kernel
theorem dX4_readFactor_151 : decode cX4_readFactor 151 = .ok (.goto 8, 3) := by decide +kernel
theorem dX4_readFactor_154 : decode cX4_readFactor 154 = .ok (.aload_n 0, 1) := by decide +kernel
theorem dX4_readFactor_155 : decode cX4_readFactor 155 = .ok (.aload_n 1, 1) := by decide +kernel
theorem dX4_readFactor_156 : decode cX4_readFactor 156 = .ok (.invokevirtual 88, 3) := by decide +kernel
theorem dX4_readFactor_159 : decode cX4_readFactor 159 = .ok (.return_, 1) := by decide +kernel
theorem dX4_readQuestion_0 : decode cX4_readQuestion 0 = .ok (.aload_n 0, 1) := by decide +kernel
theorem dX4_readQuestion_1 : decode cX4_readQuestion 1 = .ok (.invokevirtual 92, 3) := by decide +kernel
theorem dX4_readQuestion_4 : decode cX4_readQuestion 4 = .ok (.istore_n 2, 1) := by decide +kernel
theorem dX4_readQuestion_5 : decode cX4_readQuestion 5 = .ok (.aload_n 0, 1) := by decide +kernel
theorem dX4_readQuestion_6 : decode cX4_readQuestion 6 = .ok (.bipush 32, 2) := by decide +kernel
theorem dX4_readQuestion_8 : decode cX4_readQuestion 8 = .ok (.invokevirtual 75, 3) := by decide +kernel
theorem dX4_readQuestion_11 : decode cX4_readQuestion 11 = .ok (.aload_n 0, 1) := by decide +kernel
theorem dX4_readQuestion_12 : decode cX4_readQuestion 12 = .ok (.invokevirtual 96, 3) := by decide +kernel
theorem dX4_readQuestion_15 : decode cX4_readQuestion 15 = .ok (.istore_n 3, 1) := by decide +kernel
theorem dX4_readQuestion_16 : decode cX4_readQuestion 16 = .ok (.aload_n 0, 1) := by decide +kernel
theorem dX4_readQuestion_17 : decode cX4_readQuestion 17 = .ok (.bipush 32, 2) := by decide +kernel
theorem dX4_readQuestion_19 : decode cX4_readQuestion 19 = .ok (.invokevirtual 75, 3) := by decide +kernel
theorem dX4_readQuestion_22 : decode cX4_readQuestion 22 = .ok (.aload_n 0, 1) := by decide +kernel
theorem dX4_readQuestion_23 : decode cX4_readQuestion 23 = .ok (.invokevirtual 99, 3) := by decide +kernel
theorem dX4_readQuestion_26 : decode cX4_readQuestion 26 = .ok (.istore 4, 2) := by decide +kernel
theorem dX4_readQuestion_28 : decode cX4_readQuestion 28 = .ok (.iload_n 3, 1) := by decide +kernel
theorem dX4_readQuestion_29 : decode cX4_readQuestion 29 = .ok (.iconst 1, 1) := by decide +kernel
theorem dX4_readQuestion_30 : decode cX4_readQuestion 30 = .ok (.if_icmp .ne 16, 3) := by decide +kernel
theorem dX4_readQuestion_33 : decode cX4_readQuestion 33 = .ok (.aload_n 1, 1) := by decide +kernel
theorem dX4_readQuestion_34 : decode cX4_readQuestion 34 = .ok (.iconst 1, 1) := by decide +kernel
theorem dX4_readQuestion_35 : decode cX4_readQuestion 35 = .ok (.iload_n 2, 1) := by decide +kernel
theorem dX4_readQuestion_36 : decode cX4_readQuestion 36 = .ok (.iload 4, 2) := by decide +kernel
theorem dX4_readQuestion_38 : decode cX4_readQuestion 38 = .ok (.iload 4, 2) := by decide +kernel
theorem dX4_readQuestion_40 : decode cX4_readQuestion 40 = .ok (.invokevirtual 84, 3) := by decide +kernel
theorem dX4_readQuestion_43 : decode cX4_readQuestion 43 = .ok (.goto 51, 3) := by decide +kernel
theorem dX4_readQuestion_46 : decode cX4_readQuestion 46 = .ok (.iload_n 3, 1) := by decide +kernel
theorem dX4_readQuestion_47 : decode cX4_readQuestion 47 = .ok (.iconst 2, 1) := by decide +kernel
theorem dX4_readQuestion_48 : decode cX4_readQuestion 48 = .ok (.if_icmp .ne 17, 3) := by decide +kernel
theorem dX4_readQuestion_51 : decode cX4_readQuestion 51 = .ok (.aload_n 1, 1) := by decide +kernel
theorem dX4_readQuestion_52 : decode cX4_readQuestion 52 = .ok (.iconst 2, 1) := by decide +kernel
theorem dX4_readQuestion_53 : decode cX4_readQuestion 53 = .ok (.iload_n 2, 1) := by decide +kernel
theorem dX4_readQuestion_54 : decode cX4_readQuestion 54 = .ok (.iconst 0, 1) := by decide +kernel
theorem dX4_readQuestion_55 : decode cX4_readQuestion 55 = .ok (.iload 4, 2) := by decide +kernel
theorem dX4_readQuestion_57 : decode cX4_readQuestion 57 = .ok (.iconst 1, 1) := by decide +kernel
theorem dX4_readQuestion_58 : decode cX4_readQuestion 58 = .ok (.isub, 1) := by decide +kernel
theorem dX4_readQuestion_59 : decode cX4_readQuestion 59 = .ok (.invokevirtual 84, 3) := by decide +kernel
theorem dX4_readQuestion_62 : decode cX4_readQuestion 62 = .ok (.goto 32, 3) := by decide +kernel
theorem dX4_readQuestion_65 : decode cX4_readQuestion 65 = .ok (.iload_n 3, 1) := by decide +kernel
theorem dX4_readQuestion_66 : decode cX4_readQuestion 66 = .ok (.iconst 3, 1) := by decide +kernel
theorem dX4_readQuestion_67 : decode cX4_readQuestion 67 = .ok (.if_icmp .ne 27, 3) := by decide +kernel
theorem dX4_readQuestion_70 : decode cX4_readQuestion 70 = .ok (.aload_n 0, 1) := by decide +kernel
theorem dX4_readQuestion_71 : decode cX4_readQuestion 71 = .ok (.bipush 46, 2) := by decide +kernel
theorem dX4_readQuestion_73 : decode cX4_readQuestion 73 = .ok (.invokevirtual 75, 3) := by decide +kernel
theorem dX4_readQuestion_76 : decode cX4_readQuestion 76 = .ok (.aload_n 0, 1) := by decide +kernel
theorem dX4_readQuestion_77 : decode cX4_readQuestion 77 = .ok (.bipush 46, 2) := by decide +kernel
theorem dX4_readQuestion_79 : decode cX4_readQuestion 79 = .ok (.invokevirtual 75, 3) := by decide +kernel
theorem dX4_readQuestion_82 : decode cX4_readQuestion 82 = .ok (.aload_n 1, 1) := by decide +kernel
theorem dX4_readQuestion_83 : decode cX4_readQuestion 83 = .ok (.iconst 3, 1) := by decide +kernel
theorem dX4_readQuestion_84 : decode cX4_readQuestion 84 = .ok (.iload_n 2, 1) := by decide +kernel
theorem dX4_readQuestion_85 : decode cX4_readQuestion 85 = .ok (.iload 4, 2) := by decide +kernel
theorem dX4_readQuestion_87 : decode cX4_readQuestion 87 = .ok (.aload_n 0, 1) := by decide +kernel
theorem dX4_readQuestion_88 : decode cX4_readQuestion 88 = .ok (.invokevirtual 99, 3) := by decide +kernel
theorem dX4_readQuestion_91 : decode cX4_readQuestion 91 = .ok (.invokevirtual 84, 3) := by decide +kernel
theorem dX4_readQuestion_94 : decode cX4_readQuestion 94 = .ok (.return_, 1) := by decide +kernel
theorem dX4_passColumn_0 : decode cX4_passColumn 0 = .ok (.aload_n 0, 1) := by decide +kernel
theorem dX4_passColumn_1 : decode cX4_passColumn 1 = .ok (.aload_n 0, 1) := by decide +kernel
theorem dX4_passColumn_2 : decode cX4_passColumn 2 = .ok (.getfield 19, 3) := by decide +kernel
theorem dX4_passColumn_5 : decode cX4_passColumn 5 = .ok (.invokevirtual 65, 3) := by decide +kernel
theorem dX4_passColumn_8 : decode cX4_passColumn 8 = .ok (.istore_n 1, 1) := by decide +kernel
theorem dX4_passColumn_9 : decode cX4_passColumn 9 = .ok (.iload_n 1, 1) := by decide +kernel
theorem dX4_passColumn_10 : decode cX4_passColumn 10 = .ok (.bipush 97, 2) := by decide +kernel
theorem dX4_passColumn_12 : decode cX4_passColumn 12 = .ok (.if_icmp .lt 25, 3) := by decide +kernel
theorem dX4_passColumn_15 : decode cX4_passColumn 15 = .ok (.iload_n 1, 1) := by decide +kernel
theorem dX4_passColumn_16 : decode cX4_passColumn 16 = .ok (.bipush 101, 2) := by decide +kernel
theorem dX4_passColumn_18 : decode cX4_passColumn 18 = .ok (.if_icmp .ge 19, 3) := by decide +kernel
theorem dX4_passColumn_21 : decode cX4_passColumn 21 = .ok (.aload_n 0, 1) := by decide +kernel
theorem dX4_passColumn_22 : decode cX4_passColumn 22 = .ok (.aload_n 0, 1) := by decide +kernel
theorem dX4_passColumn_23 : decode cX4_passColumn 23 = .ok (.getfield 19, 3) := by decide +kernel
theorem dX4_passColumn_26 : decode cX4_passColumn 26 = .ok (.iconst 1, 1) := by decide +kernel
theorem dX4_passColumn_27 : decode cX4_passColumn 27 = .ok (.iadd, 1) := by decide +kernel
theorem dX4_passColumn_28 : decode cX4_passColumn 28 = .ok (.invokevirtual 65, 3) := by decide +kernel
theorem dX4_passColumn_31 : decode cX4_passColumn 31 = .ok (.invokestatic 102, 3) := by decide +kernel
theorem dX4_passColumn_34 : decode cX4_passColumn 34 = .ok (.ifCond .eq 13, 3) := by decide +kernel
theorem dX4_passColumn_37 : decode cX4_passColumn 37 = .ok (.aload_n 0, 1) := by decide +kernel
theorem dX4_passColumn_38 : decode cX4_passColumn 38 = .ok (.aload_n 0, 1) := by decide +kernel
theorem dX4_passColumn_39 : decode cX4_passColumn 39 = .ok (.getfield 19, 3) := by decide +kernel
theorem dX4_passColumn_42 : decode cX4_passColumn 42 = .ok (.invokevirtual 69, 3) := by decide +kernel
theorem dX4_passColumn_45 : decode cX4_passColumn 45 = .ok (.iconst (-1), 1) := by decide +kernel
theorem dX4_passColumn_46 : decode cX4_passColumn 46 = .ok (.ireturn, 1) := by decide +kernel
theorem dX4_passColumn_47 : decode cX4_passColumn 47 = .ok (.aload_n 0, 1) := by decide +kernel
theorem dX4_passColumn_48 : decode cX4_passColumn 48 = .ok (.dup, 1) := by decide +kernel
theorem dX4_passColumn_49 : decode cX4_passColumn 49 = .ok (.getfield 19, 3) := by decide +kernel
theorem dX4_passColumn_52 : decode cX4_passColumn 52 = .ok (.iconst 1, 1) := by decide +kernel
theorem dX4_passColumn_53 : decode cX4_passColumn 53 = .ok (.iadd, 1) := by decide +kernel
theorem dX4_passColumn_54 : decode cX4_passColumn 54 = .ok (.putfield 19, 3) := by decide +kernel
theorem dX4_passColumn_57 : decode cX4_passColumn 57 = .ok (.iload_n 1, 1) := by decide +kernel
theorem dX4_passColumn_58 : decode cX4_passColumn 58 = .ok (.bipush 97, 2) := by decide +kernel
theorem dX4_passColumn_60 : decode cX4_passColumn 60 = .ok (.isub, 1) := by decide +kernel
theorem dX4_passColumn_61 : decode cX4_passColumn 61 = .ok (.ireturn, 1) := by decide +kernel
theorem dX4_passSort_0 : decode cX4_passSort 0 = .ok (.aload_n 0, 1) := by decide +kernel
theorem dX4_passSort_1 : decode cX4_passSort 1 = .ok (.aload_n 0, 1) := by decide +kernel
theorem dX4_passSort_2 : decode cX4_passSort 2 = .ok (.getfield 19, 3) := by decide +kernel
theorem dX4_passSort_5 : decode cX4_passSort 5 = .ok (.ldc 106, 2) := by decide +kernel
theorem dX4_passSort_7 : decode cX4_passSort 7 = .ok (.invokevirtual 61, 3) := by decide +kernel
theorem dX4_passSort_10 : decode cX4_passSort 10 = .ok (.ifCond .eq 11, 3) := by decide +kernel
theorem dX4_passSort_13 : decode cX4_passSort 13 = .ok (.aload_n 0, 1) := by decide +kernel
theorem dX4_passSort_14 : decode cX4_passSort 14 = .ok (.ldc 106, 2) := by decide +kernel
theorem dX4_passSort_16 : decode cX4_passSort 16 = .ok (.invokevirtual 72, 3) := by decide +kernel
theorem dX4_passSort_19 : decode cX4_passSort 19 = .ok (.iconst 1, 1) := by decide +kernel
theorem dX4_passSort_20 : decode cX4_passSort 20 = .ok (.ireturn, 1) := by decide +kernel
theorem dX4_passSort_21 : decode cX4_passSort 21 = .ok (.aload_n 0, 1) := by decide +kernel
theorem dX4_passSort_22 : decode cX4_passSort 22 = .ok (.aload_n 0, 1) := by decide +kernel
theorem dX4_passSort_23 : decode cX4_passSort 23 = .ok (.getfield 19, 3) := by decide +kernel
theorem dX4_passSort_26 : decode cX4_passSort 26 = .ok (.ldc 108, 2) := by decide +kernel
theorem dX4_passSort_28 : decode cX4_passSort 28 = .ok (.invokevirtual 61, 3) := by decide +kernel
theorem dX4_passSort_31 : decode cX4_passSort 31 = .ok (.ifCond .eq 11, 3) := by decide +kernel
theorem dX4_passSort_34 : decode cX4_passSort 34 = .ok (.aload_n 0, 1) := by decide +kernel
theorem dX4_passSort_35 : decode cX4_passSort 35 = .ok (.ldc 108, 2) := by decide +kernel
theorem dX4_passSort_37 : decode cX4_passSort 37 = .ok (.invokevirtual 72, 3) := by decide +kernel
theorem dX4_passSort_40 : decode cX4_passSort 40 = .ok (.iconst 2, 1) := by decide +kernel
theorem dX4_passSort_41 : decode cX4_passSort 41 = .ok (.ireturn, 1) := by decide +kernel
theorem dX4_passSort_42 : decode cX4_passSort 42 = .ok (.aload_n 0, 1) := by decide +kernel
theorem dX4_passSort_43 : decode cX4_passSort 43 = .ok (.aload_n 0, 1) := by decide +kernel
theorem dX4_passSort_44 : decode cX4_passSort 44 = .ok (.getfield 19, 3) := by decide +kernel
theorem dX4_passSort_47 : decode cX4_passSort 47 = .ok (.ldc 110, 2) := by decide +kernel
theorem dX4_passSort_49 : decode cX4_passSort 49 = .ok (.invokevirtual 61, 3) := by decide +kernel
theorem dX4_passSort_52 : decode cX4_passSort 52 = .ok (.ifCond .eq 11, 3) := by decide +kernel
theorem dX4_passSort_55 : decode cX4_passSort 55 = .ok (.aload_n 0, 1) := by decide +kernel
theorem dX4_passSort_56 : decode cX4_passSort 56 = .ok (.ldc 110, 2) := by decide +kernel
theorem dX4_passSort_58 : decode cX4_passSort 58 = .ok (.invokevirtual 72, 3) := by decide +kernel
theorem dX4_passSort_61 : decode cX4_passSort 61 = .ok (.iconst 3, 1) := by decide +kernel
theorem dX4_passSort_62 : decode cX4_passSort 62 = .ok (.ireturn, 1) := by decide +kernel
theorem dX4_passSort_63 : decode cX4_passSort 63 = .ok (.aload_n 0, 1) := by decide +kernel
theorem dX4_passSort_64 : decode cX4_passSort 64 = .ok (.aload_n 0, 1) := by decide +kernel
theorem dX4_passSort_65 : decode cX4_passSort 65 = .ok (.getfield 19, 3) := by decide +kernel
theorem dX4_passSort_68 : decode cX4_passSort 68 = .ok (.invokevirtual 69, 3) := by decide +kernel
theorem dX4_passSort_71 : decode cX4_passSort 71 = .ok (.iconst (-1), 1) := by decide +kernel
theorem dX4_passSort_72 : decode cX4_passSort 72 = .ok (.ireturn, 1) := by decide +kernel
theorem dX4_passValue_0 : decode cX4_passValue 0 = .ok (.aload_n 0, 1) := by decide +kernel
theorem dX4_passValue_1 : decode cX4_passValue 1 = .ok (.aload_n 0, 1) := by decide +kernel
theorem dX4_passValue_2 : decode cX4_passValue 2 = .ok (.getfield 19, 3) := by decide +kernel
theorem dX4_passValue_5 : decode cX4_passValue 5 = .ok (.invokevirtual 65, 3) := by decide +kernel
theorem dX4_passValue_8 : decode cX4_passValue 8 = .ok (.invokestatic 112, 3) := by decide +kernel
theorem dX4_passValue_11 : decode cX4_passValue 11 = .ok (.ifCond .ne 13, 3) := by decide +kernel
theorem dX4_passValue_14 : decode cX4_passValue 14 = .ok (.aload_n 0, 1) := by decide +kernel
theorem dX4_passValue_15 : decode cX4_passValue 15 = .ok (.aload_n 0, 1) := by decide +kernel
theorem dX4_passValue_16 : decode cX4_passValue 16 = .ok (.getfield 19, 3) := by decide +kernel
theorem dX4_passValue_19 : decode cX4_passValue 19 = .ok (.invokevirtual 69, 3) := by decide +kernel
theorem dX4_passValue_22 : decode cX4_passValue 22 = .ok (.iconst 0, 1) := by decide +kernel
theorem dX4_passValue_23 : decode cX4_passValue 23 = .ok (.ireturn, 1) := by decide +kernel
theorem dX4_passValue_24 : decode cX4_passValue 24 = .ok (.aload_n 0, 1) := by decide +kernel
theorem dX4_passValue_25 : decode cX4_passValue 25 = .ok (.aload_n 0, 1) := by decide +kernel
theorem dX4_passValue_26 : decode cX4_passValue 26 = .ok (.getfield 19, 3) := by decide +kernel
theorem dX4_passValue_29 : decode cX4_passValue 29 = .ok (.invokevirtual 65, 3) := by decide +kernel
theorem dX4_passValue_32 : decode cX4_passValue 32 = .ok (.bipush 48, 2) := by decide +kernel
theorem dX4_passValue_34 : decode cX4_passValue 34 = .ok (.isub, 1) := by decide +kernel
theorem dX4_passValue_35 : decode cX4_passValue 35 = .ok (.istore_n 1, 1) := by decide +kernel
theorem dX4_passValue_36 : decode cX4_passValue 36 = .ok (.aload_n 0, 1) := by decide +kernel
theorem dX4_passValue_37 : decode cX4_passValue 37 = .ok (.dup, 1) := by decide +kernel
theorem dX4_passValue_38 : decode cX4_passValue 38 = .ok (.getfield 19, 3) := by decide +kernel
theorem dX4_passValue_41 : decode cX4_passValue 41 = .ok (.iconst 1, 1) := by decide +kernel
theorem dX4_passValue_42 : decode cX4_passValue 42 = .ok (.iadd, 1) := by decide +kernel
theorem dX4_passValue_43 : decode cX4_passValue 43 = .ok (.putfield 19, 3) := by decide +kernel
theorem dX4_passValue_46 : decode cX4_passValue 46 = .ok (.aload_n 0, 1) := by decide +kernel
theorem dX4_passValue_47 : decode cX4_passValue 47 = .ok (.aload_n 0, 1) := by decide +kernel
theorem dX4_passValue_48 : decode cX4_passValue 48 = .ok (.getfield 19, 3) := by decide +kernel
theorem dX4_passValue_51 : decode cX4_passValue 51 = .ok (.invokevirtual 65, 3) := by decide +kernel
theorem dX4_passValue_54 : decode cX4_passValue 54 = .ok (.invokestatic 112, 3) := by decide +kernel
theorem dX4_passValue_57 : decode cX4_passValue 57 = .ok (.ifCond .eq 44, 3) := by decide +kernel
theorem dX4_passValue_60 : decode cX4_passValue 60 = .ok (.iload_n 1, 1) := by decide +kernel
theorem dX4_passValue_61 : decode cX4_passValue 61 = .ok (.bipush 10, 2) := by decide +kernel
theorem dX4_passValue_63 : decode cX4_passValue 63 = .ok (.imul, 1) := by decide +kernel
theorem dX4_passValue_64 : decode cX4_passValue 64 = .ok (.aload_n 0, 1) := by decide +kernel
theorem dX4_passValue_65 : decode cX4_passValue 65 = .ok (.aload_n 0, 1) := by decide +kernel
theorem dX4_passValue_66 : decode cX4_passValue 66 = .ok (.getfield 19, 3) := by decide +kernel
theorem dX4_passValue_69 : decode cX4_passValue 69 = .ok (.invokevirtual 65, 3) := by decide +kernel
theorem dX4_passValue_72 : decode cX4_passValue 72 = .ok (.iadd, 1) := by decide +kernel
theorem dX4_passValue_73 : decode cX4_passValue 73 = .ok (.bipush 48, 2) := by decide +kernel
theorem dX4_passValue_75 : decode cX4_passValue 75 = .ok (.isub, 1) := by decide +kernel
theorem dX4_passValue_76 : decode cX4_passValue 76 = .ok (.istore_n 1, 1) := by decide +kernel
theorem dX4_passValue_77 : decode cX4_passValue 77 = .ok (.iload_n 1, 1) := by decide +kernel
theorem dX4_passValue_78 : decode cX4_passValue 78 = .ok (.bipush 16, 2) := by decide +kernel
theorem dX4_passValue_80 : decode cX4_passValue 80 = .ok (.if_icmp .lt 11, 3) := by decide +kernel
theorem dX4_passValue_83 : decode cX4_passValue 83 = .ok (.aload_n 0, 1) := by decide +kernel
theorem dX4_passValue_84 : decode cX4_passValue 84 = .ok (.aload_n 0, 1) := by decide +kernel
theorem dX4_passValue_85 : decode cX4_passValue 85 = .ok (.getfield 19, 3) := by decide +kernel
theorem dX4_passValue_88 : decode cX4_passValue 88 = .ok (.invokevirtual 69, 3) := by decide +kernel
theorem dX4_passValue_91 : decode cX4_passValue 91 = .ok (.aload_n 0, 1) := by decide +kernel
theorem dX4_passValue_92 : decode cX4_passValue 92 = .ok (.dup, 1) := by decide +kernel
theorem dX4_passValue_93 : decode cX4_passValue 93 = .ok (.getfield 19, 3) := by decide +kernel
theorem dX4_passValue_96 : decode cX4_passValue 96 = .ok (.iconst 1, 1) := by decide +kernel
theorem dX4_passValue_97 : decode cX4_passValue 97 = .ok (.iadd, 1) := by decide +kernel
theorem dX4_passValue_98 : decode cX4_passValue 98 = .ok (.putfield 19, 3) := by decide +kernel
theorem dX4_passValue_101 : decode cX4_passValue 101 = .ok (.iload_n 1, 1) := by decide +kernel
theorem dX4_passValue_102 : decode cX4_passValue 102 = .ok (.ireturn, 1) := by decide +kernel
theorem dX4_passClosing_0 : decode cX4_passClosing 0 = .ok (.aload_n 0, 1) := by decide +kernel
theorem dX4_passClosing_1 : decode cX4_passClosing 1 = .ok (.aload_n 0, 1) := by decide +kernel
theorem dX4_passClosing_2 : decode cX4_passClosing 2 = .ok (.getfield 19, 3) := by decide +kernel
theorem dX4_passClosing_5 : decode cX4_passClosing 5 = .ok (.invokevirtual 65, 3) := by decide +kernel
theorem dX4_passClosing_8 : decode cX4_passClosing 8 = .ok (.bipush 41, 2) := by decide +kernel
theorem dX4_passClosing_10 : decode cX4_passClosing 10 = .ok (.if_icmp .ne 16, 3) := by decide +kernel
theorem dX4_passClosing_13 : decode cX4_passClosing 13 = .ok (.aload_n 0, 1) := by decide +kernel
theorem dX4_passClosing_14 : decode cX4_passClosing 14 = .ok (.dup, 1) := by decide +kernel
theorem dX4_passClosing_15 : decode cX4_passClosing 15 = .ok (.getfield 19, 3) := by decide +kernel
theorem dX4_passClosing_18 : decode cX4_passClosing 18 = .ok (.iconst 1, 1) := by decide +kernel
theorem dX4_passClosing_19 : decode cX4_passClosing 19 = .ok (.iadd, 1) := by decide +kernel
theorem dX4_passClosing_20 : decode cX4_passClosing 20 = .ok (.putfield 19, 3) := by decide +kernel
theorem dX4_passClosing_23 : decode cX4_passClosing 23 = .ok (.goto 7, 3) := by decide +kernel
theorem dX4_passClosing_26 : decode cX4_passClosing 26 = .ok (.aload_n 0, 1) := by decide +kernel
theorem dX4_passClosing_27 : decode cX4_passClosing 27 = .ok (.invokevirtual 34, 3) := by decide +kernel
theorem dX4_passClosing_30 : decode cX4_passClosing 30 = .ok (.return_, 1) := by decide +kernel
theorem dX4_blameWhatFollows_0 : decode cX4_blameWhatFollows 0 = .ok (.aload_n 0, 1) := by decide +kernel
theorem dX4_blameWhatFollows_1 : decode cX4_blameWhatFollows 1 = .ok (.aload_n 0, 1) := by decide +kernel
theorem dX4_blameWhatFollows_2 : decode cX4_blameWhatFollows 2 = .ok (.aload_n 0, 1) := by decide +kernel
theorem dX4_blameWhatFollows_3 : decode cX4_blameWhatFollows 3 = .ok (.getfield 19, 3) := by decide +kernel
theorem dX4_blameWhatFollows_6 : decode cX4_blameWhatFollows 6 = .ok (.invokevirtual 65, 3) := by decide +kernel
theorem dX4_blameWhatFollows_9 : decode cX4_blameWhatFollows 9 = .ok (.bipush 32, 2) := by decide +kernel
theorem dX4_blameWhatFollows_11 : decode cX4_blameWhatFollows 11 = .ok (.if_icmp .ne 12, 3) := by decide +kernel
theorem dX4_blameWhatFollows_14 : decode cX4_blameWhatFollows 14 = .ok (.aload_n 0, 1) := by decide +kernel
theorem dX4_blameWhatFollows_15 : decode cX4_blameWhatFollows 15 = .ok (.getfield 19, 3) := by decide +kernel
theorem dX4_blameWhatFollows_18 : decode cX4_blameWhatFollows 18 = .ok (.iconst 1, 1) := by decide +kernel
theorem dX4_blameWhatFollows_19 : decode cX4_blameWhatFollows 19 = .ok (.iadd, 1) := by decide +kernel
theorem dX4_blameWhatFollows_20 : decode cX4_blameWhatFollows 20 = .ok (.goto 7, 3) := by decide +kernel
theorem dX4_blameWhatFollows_23 : decode cX4_blameWhatFollows 23 = .ok (.aload_n 0, 1) := by decide +kernel
theorem dX4_blameWhatFollows_24 : decode cX4_blameWhatFollows 24 = .ok (.getfield 19, 3) := by decide +kernel
theorem dX4_blameWhatFollows_27 : decode cX4_blameWhatFollows 27 = .ok (.invokevirtual 69, 3) := by decide +kernel
theorem dX4_blameWhatFollows_30 : decode cX4_blameWhatFollows 30 = .ok (.return_, 1) := by decide +kernel
theorem dX4_isJoinedBy_0 : decode cX4_isJoinedBy 0 = .ok (.aload_n 0, 1) := by decide +kernel
theorem dX4_isJoinedBy_1 : decode cX4_isJoinedBy 1 = .ok (.getfield 22, 3) := by decide +kernel
theorem dX4_isJoinedBy_4 : decode cX4_isJoinedBy 4 = .ok (.iconst (-1), 1) := by decide +kernel
theorem dX4_isJoinedBy_5 : decode cX4_isJoinedBy 5 = .ok (.if_icmp .ne 34, 3) := by decide +kernel
theorem dX4_isJoinedBy_8 : decode cX4_isJoinedBy 8 = .ok (.aload_n 0, 1) := by decide +kernel
theorem dX4_isJoinedBy_9 : decode cX4_isJoinedBy 9 = .ok (.aload_n 0, 1) := by decide +kernel
theorem dX4_isJoinedBy_10 : decode cX4_isJoinedBy 10 = .ok (.getfield 19, 3) := by decide +kernel
theorem dX4_isJoinedBy_13 : decode cX4_isJoinedBy 13 = .ok (.invokevirtual 65, 3) := by decide +kernel
theorem dX4_isJoinedBy_16 : decode cX4_isJoinedBy 16 = .ok (.bipush 32, 2) := by decide +kernel
theorem dX4_isJoinedBy_18 : decode cX4_isJoinedBy 18 = .ok (.if_icmp .ne 21, 3) := by decide +kernel
theorem dX4_isJoinedBy_21 : decode cX4_isJoinedBy 21 = .ok (.aload_n 0, 1) := by decide +kernel
theorem dX4_isJoinedBy_22 : decode cX4_isJoinedBy 22 = .ok (.aload_n 0, 1) := by decide +kernel
theorem dX4_isJoinedBy_23 : decode cX4_isJoinedBy 23 = .ok (.getfield 19, 3) := by decide +kernel
theorem dX4_isJoinedBy_26 : decode cX4_isJoinedBy 26 = .ok (.iconst 1, 1) := by decide +kernel
theorem dX4_isJoinedBy_27 : decode cX4_isJoinedBy 27 = .ok (.iadd, 1) := by decide +kernel
theorem dX4_isJoinedBy_28 : decode cX4_isJoinedBy 28 = .ok (.aload_n 1, 1) := by decide +kernel
theorem dX4_isJoinedBy_29 : decode cX4_isJoinedBy 29 = .ok (.invokevirtual 61, 3) := by decide +kernel
theorem dX4_isJoinedBy_32 : decode cX4_isJoinedBy 32 = .ok (.ifCond .eq 7, 3) := by decide +kernel
theorem dX4_isJoinedBy_35 : decode cX4_isJoinedBy 35 = .ok (.iconst 1, 1) := by decide +kernel
theorem dX4_isJoinedBy_36 : decode cX4_isJoinedBy 36 = .ok (.goto 4, 3) := by decide +kernel
theorem dX4_isJoinedBy_39 : decode cX4_isJoinedBy 39 = .ok (.iconst 0, 1) := by decide +kernel
theorem dX4_isJoinedBy_40 : decode cX4_isJoinedBy 40 = .ok (.ireturn, 1) := by decide +kernel
theorem dX4_passJoin_0 : decode cX4_passJoin 0 = .ok (.aload_n 0, 1) := by decide +kernel
theorem dX4_passJoin_1 : decode cX4_passJoin 1 = .ok (.bipush 32, 2) := by decide +kernel
theorem dX4_passJoin_3 : decode cX4_passJoin 3 = .ok (.invokevirtual 75, 3) := by decide +kernel
theorem dX4_passJoin_6 : decode cX4_passJoin 6 = .ok (.aload_n 0, 1) := by decide +kernel
theorem dX4_passJoin_7 : decode cX4_passJoin 7 = .ok (.aload_n 1, 1) := by decide +kernel
theorem dX4_passJoin_8 : decode cX4_passJoin 8 = .ok (.invokevirtual 72, 3) := by decide +kernel
theorem dX4_passJoin_11 : decode cX4_passJoin 11 = .ok (.aload_n 0, 1) := by decide +kernel
theorem dX4_passJoin_12 : decode cX4_passJoin 12 = .ok (.bipush 32, 2) := by decide +kernel
theorem dX4_passJoin_14 : decode cX4_passJoin 14 = .ok (.invokevirtual 75, 3) := by decide +kernel
theorem dX4_passJoin_17 : decode cX4_passJoin 17 = .ok (.return_, 1) := by decide +kernel
theorem dX4_isWordAt_0 : decode cX4_isWordAt 0 = .ok (.iconst 0, 1) := by decide +kernel
theorem dX4_isWordAt_1 : decode cX4_isWordAt 1 = .ok (.istore_n 3, 1) := by decide +kernel
theorem dX4_isWordAt_2 : decode cX4_isWordAt 2 = .ok (.iload_n 3, 1) := by decide +kernel
theorem dX4_isWordAt_3 : decode cX4_isWordAt 3 = .ok (.aload_n 2, 1) := by decide +kernel
theorem dX4_isWordAt_4 : decode cX4_isWordAt 4 = .ok (.invokevirtual 115, 3) := by decide +kernel
theorem dX4_isWordAt_7 : decode cX4_isWordAt 7 = .ok (.if_icmp .ge 26, 3) := by decide +kernel
theorem dX4_isWordAt_10 : decode cX4_isWordAt 10 = .ok (.aload_n 0, 1) := by decide +kernel
theorem dX4_isWordAt_11 : decode cX4_isWordAt 11 = .ok (.iload_n 1, 1) := by decide +kernel
theorem dX4_isWordAt_12 : decode cX4_isWordAt 12 = .ok (.iload_n 3, 1) := by decide +kernel
theorem dX4_isWordAt_13 : decode cX4_isWordAt 13 = .ok (.iadd, 1) := by decide +kernel
theorem dX4_isWordAt_14 : decode cX4_isWordAt 14 = .ok (.invokevirtual 65, 3) := by decide +kernel
theorem dX4_isWordAt_17 : decode cX4_isWordAt 17 = .ok (.aload_n 2, 1) := by decide +kernel
theorem dX4_isWordAt_18 : decode cX4_isWordAt 18 = .ok (.iload_n 3, 1) := by decide +kernel
theorem dX4_isWordAt_19 : decode cX4_isWordAt 19 = .ok (.invokevirtual 119, 3) := by decide +kernel
theorem dX4_isWordAt_22 : decode cX4_isWordAt 22 = .ok (.if_icmp .eq 5, 3) := by decide +kernel
theorem dX4_isWordAt_25 : decode cX4_isWordAt 25 = .ok (.iconst 0, 1) := by decide +kernel
theorem dX4_isWordAt_26 : decode cX4_isWordAt 26 = .ok (.ireturn, 1) := by decide +kernel
theorem dX4_isWordAt_27 : decode cX4_isWordAt 27 = .ok (.iinc 3 1, 3) := by decide +kernel
theorem dX4_isWordAt_30 : decode cX4_isWordAt 30 = .ok (.goto (-28), 3) := by decide +kernel
theorem dX4_isWordAt_33 : decode cX4_isWordAt 33 = .ok (.aload_n 0, 1) := by decide +kernel
theorem dX4_isWordAt_34 : decode cX4_isWordAt 34 = .ok (.iload_n 1, 1) := by decide +kernel
theorem dX4_isWordAt_35 : decode cX4_isWordAt 35 = .ok (.aload_n 2, 1) := by decide +kernel
theorem dX4_isWordAt_36 : decode cX4_isWordAt 36 = .ok (.invokevirtual 115, 3) := by decide +kernel
theorem dX4_isWordAt_39 : decode cX4_isWordAt 39 = .ok (.iadd, 1) := by decide +kernel
theorem dX4_isWordAt_40 : decode cX4_isWordAt 40 = .ok (.invokevirtual 65, 3) := by decide +kernel
theorem dX4_isWordAt_43 : decode cX4_isWordAt 43 = .ok (.invokestatic 102, 3) := by decide +kernel
theorem dX4_isWordAt_46 : decode cX4_isWordAt 46 = .ok (.ifCond .ne 7, 3) := by decide +kernel
theorem dX4_isWordAt_49 : decode cX4_isWordAt 49 = .ok (.iconst 1, 1) := by decide +kernel
theorem dX4_isWordAt_50 : decode cX4_isWordAt 50 = .ok (.goto 4, 3) := by decide +kernel
theorem dX4_isWordAt_53 : decode cX4_isWordAt 53 = .ok (.iconst 0, 1) := by decide +kernel
theorem dX4_isWordAt_54 : decode cX4_isWordAt 54 = .ok (.ireturn, 1) := by decide +kernel
theorem dX4_passWord_0 : decode cX4_passWord 0 = .ok (.aload_n 0, 1) := by decide +kernel
theorem dX4_passWord_1 : decode cX4_passWord 1 = .ok (.dup, 1) := by decide +kernel
theorem dX4_passWord_2 : decode cX4_passWord 2 = .ok (.getfield 19, 3) := by decide +kernel
theorem dX4_passWord_5 : decode cX4_passWord 5 = .ok (.aload_n 1, 1) := by decide +kernel
theorem dX4_passWord_6 : decode cX4_passWord 6 = .ok (.invokevirtual 115, 3) := by decide +kernel
theorem dX4_passWord_9 : decode cX4_passWord 9 = .ok (.iadd, 1) := by decide +kernel
theorem dX4_passWord_10 : decode cX4_passWord 10 = .ok (.putfield 19, 3) := by decide +kernel
theorem dX4_passWord_13 : decode cX4_passWord 13 = .ok (.return_, 1) := by decide +kernel
theorem dX4_pass_0 : decode cX4_pass 0 = .ok (.aload_n 0, 1) := by decide +kernel
theorem dX4_pass_1 : decode cX4_pass 1 = .ok (.aload_n 0, 1) := by decide +kernel
theorem dX4_pass_2 : decode cX4_pass 2 = .ok (.getfield 19, 3) := by decide +kernel
theorem dX4_pass_5 : decode cX4_pass 5 = .ok (.invokevirtual 65, 3) := by decide +kernel
theorem dX4_pass_8 : decode cX4_pass 8 = .ok (.iload_n 1, 1) := by decide +kernel
theorem dX4_pass_9 : decode cX4_pass 9 = .ok (.if_icmp .ne 16, 3) := by decide +kernel
theorem dX4_pass_12 : decode cX4_pass 12 = .ok (.aload_n 0, 1) := by decide +kernel
theorem dX4_pass_13 : decode cX4_pass 13 = .ok (.dup, 1) := by decide +kernel
theorem dX4_pass_14 : decode cX4_pass 14 = .ok (.getfield 19, 3) := by decide +kernel
theorem dX4_pass_17 : decode cX4_pass 17 = .ok (.iconst 1, 1) := by decide +kernel
theorem dX4_pass_18 : decode cX4_pass 18 = .ok (.iadd, 1) := by decide +kernel
theorem dX4_pass_19 : decode cX4_pass 19 = .ok (.putfield 19, 3) := by decide +kernel
theorem dX4_pass_22 : decode cX4_pass 22 = .ok (.goto 11, 3) := by decide +kernel
theorem dX4_pass_25 : decode cX4_pass 25 = .ok (.aload_n 0, 1) := by decide +kernel
theorem dX4_pass_26 : decode cX4_pass 26 = .ok (.aload_n 0, 1) := by decide +kernel
theorem dX4_pass_27 : decode cX4_pass 27 = .ok (.getfield 19, 3) := by decide +kernel
theorem dX4_pass_30 : decode cX4_pass 30 = .ok (.invokevirtual 69, 3) := by decide +kernel
theorem dX4_pass_33 : decode cX4_pass 33 = .ok (.return_, 1) := by decide +kernel
theorem dX4_blame_0 : decode cX4_blame 0 = .ok (.aload_n 0, 1) := by decide +kernel
theorem dX4_blame_1 : decode cX4_blame 1 = .ok (.getfield 22, 3) := by decide +kernel
theorem dX4_blame_4 : decode cX4_blame 4 = .ok (.iconst (-1), 1) := by decide +kernel
theorem dX4_blame_5 : decode cX4_blame 5 = .ok (.if_icmp .ne 8, 3) := by decide +kernel
theorem dX4_blame_8 : decode cX4_blame 8 = .ok (.aload_n 0, 1) := by decide +kernel
theorem dX4_blame_9 : decode cX4_blame 9 = .ok (.iload_n 1, 1) := by decide +kernel
theorem dX4_blame_10 : decode cX4_blame 10 = .ok (.putfield 22, 3) := by decide +kernel
theorem dX4_blame_13 : decode cX4_blame 13 = .ok (.return_, 1) := by decide +kernel
theorem dX4_isLetter_0 : decode cX4_isLetter 0 = .ok (.iload_n 0, 1) := by decide +kernel
theorem dX4_isLetter_1 : decode cX4_isLetter 1 = .ok (.bipush 97, 2) := by decide +kernel
theorem dX4_isLetter_3 : decode cX4_isLetter 3 = .ok (.if_icmp .lt 13, 3) := by decide +kernel
theorem dX4_isLetter_6 : decode cX4_isLetter 6 = .ok (.iload_n 0, 1) := by decide +kernel
theorem dX4_isLetter_7 : decode cX4_isLetter 7 = .ok (.bipush 122, 2) := by decide +kernel
theorem dX4_isLetter_9 : decode cX4_isLetter 9 = .ok (.if_icmp .gt 7, 3) := by decide +kernel
theorem dX4_isLetter_12 : decode cX4_isLetter 12 = .ok (.iconst 1, 1) := by decide +kernel
theorem dX4_isLetter_13 : decode cX4_isLetter 13 = .ok (.goto 4, 3) := by decide +kernel
theorem dX4_isLetter_16 : decode cX4_isLetter 16 = .ok (.iconst 0, 1) := by decide +kernel
theorem dX4_isLetter_17 : decode cX4_isLetter 17 = .ok (.ireturn, 1) := by decide +kernel
theorem dX4_isDigit_0 : decode cX4_isDigit 0 = .ok (.iload_n 0, 1) := by decide +kernel
theorem dX4_isDigit_1 : decode cX4_isDigit 1 = .ok (.bipush 48, 2) := by decide +kernel
theorem dX4_isDigit_3 : decode cX4_isDigit 3 = .ok (.if_icmp .lt 13, 3) := by decide +kernel
theorem dX4_isDigit_6 : decode cX4_isDigit 6 = .ok (.iload_n 0, 1) := by decide +kernel
theorem dX4_isDigit_7 : decode cX4_isDigit 7 = .ok (.bipush 57, 2) := by decide +kernel
theorem dX4_isDigit_9 : decode cX4_isDigit 9 = .ok (.if_icmp .gt 7, 3) := by decide +kernel
theorem dX4_isDigit_12 : decode cX4_isDigit 12 = .ok (.iconst 1, 1) := by decide +kernel
theorem dX4_isDigit_13 : decode cX4_isDigit 13 = .ok (.goto 4, 3) := by decide +kernel
theorem dX4_isDigit_16 : decode cX4_isDigit 16 = .ok (.iconst 0, 1) := by decide +kernel
theorem dX4_isDigit_17 : decode cX4_isDigit 17 = .ok (.ireturn, 1) := by decide +kernel
theorem dX4_signAt_0 : decode cX4_signAt 0 = .ok (.iload_n 1, 1) := by decide +kernel
theorem dX4_signAt_1 : decode cX4_signAt 1 = .ok (.ifCond .lt 20, 3) := by decide +kernel
theorem dX4_signAt_4 : decode cX4_signAt 4 = .ok (.iload_n 1, 1) := by decide +kernel
theorem dX4_signAt_5 : decode cX4_signAt 5 = .ok (.aload_n 0, 1) := by decide +kernel
theorem dX4_signAt_6 : decode cX4_signAt 6 = .ok (.getfield 15, 3) := by decide +kernel
theorem dX4_signAt_9 : decode cX4_signAt 9 = .ok (.if_icmp .ge 12, 3) := by decide +kernel
theorem dX4_signAt_12 : decode cX4_signAt 12 = .ok (.aload_n 0, 1) := by decide +kernel
theorem dX4_signAt_13 : decode cX4_signAt 13 = .ok (.getfield 9, 3) := by decide +kernel
theorem dX4_signAt_16 : decode cX4_signAt 16 = .ok (.iload_n 1, 1) := by decide +kernel
theorem dX4_signAt_17 : decode cX4_signAt 17 = .ok (.baload, 1) := by decide +kernel
theorem dX4_signAt_18 : decode cX4_signAt 18 = .ok (.goto 4, 3) := by decide +kernel
theorem dX4_signAt_21 : decode cX4_signAt 21 = .ok (.iconst (-1), 1) := by decide +kernel
theorem dX4_signAt_22 : decode cX4_signAt 22 = .ok (.ireturn, 1) := by decide +kernel
theorem dX5_init_0 : decode cX5_init 0 = .ok (.aload_n 0, 1) := by decide +kernel
theorem dX5_init_1 : decode cX5_init 1 = .ok (.invokespecial 3, 3) := by decide +kernel
theorem dX5_init_4 : decode cX5_init 4 = .ok (.aload_n 0, 1) := by decide +kernel
theorem dX5_init_5 : decode cX5_init 5 = .ok (.bipush 80, 2) := by decide +kernel
theorem dX5_init_7 : decode cX5_init 7 = .ok (.anewarray 9, 3) := by decide +kernel
theorem dX5_init_10 : decode cX5_init 10 = .ok (.putfield 11, 3) := by decide +kernel
theorem dX5_init_13 : decode cX5_init 13 = .ok (.aload_n 0, 1) := by decide +kernel
theorem dX5_init_14 : decode cX5_init 14 = .ok (.iconst 0, 1) := by decide +kernel
theorem dX5_init_15 : decode cX5_init 15 = .ok (.putfield 17, 3) := by decide +kernel
theorem dX5_init_18 : decode cX5_init 18 = .ok (.iconst 0, 1) := by decide +kernel
theorem dX5_init_19 : decode cX5_init 19 = .ok (.istore_n 1, 1) := by decide +kernel
theorem dX5_init_20 : decode cX5_init 20 = .ok (.iload_n 1, 1) := by decide +kernel
theorem dX5_init_21 : decode cX5_init 21 = .ok (.bipush 80, 2) := by decide +kernel
theorem dX5_init_23 : decode cX5_init 23 = .ok (.if_icmp .ge 22, 3) := by decide +kernel
theorem dX5_init_26 : decode cX5_init 26 = .ok (.aload_n 0, 1) := by decide +kernel
theorem dX5_init_27 : decode cX5_init 27 = .ok (.getfield 11, 3) := by decide +kernel
theorem dX5_init_30 : decode cX5_init 30 = .ok (.iload_n 1, 1) := by decide +kernel
theorem dX5_init_31 : decode cX5_init 31 = .ok (.new 9, 3) := by decide +kernel
theorem dX5_init_34 : decode cX5_init 34 = .ok (.dup, 1) := by decide +kernel
theorem dX5_init_35 : decode cX5_init 35 = .ok (.invokespecial 21, 3) := by decide +kernel
theorem dX5_init_38 : decode cX5_init 38 = .ok (.aastore, 1) := by decide +kernel
theorem dX5_init_39 : decode cX5_init 39 = .ok (.iinc 1 1, 3) := by decide +kernel
theorem dX5_init_42 : decode cX5_init 42 = .ok (.goto (-22), 3) := by decide +kernel
theorem dX5_init_45 : decode cX5_init 45 = .ok (.return_, 1) := by decide +kernel
theorem dX5_hasRow_0 : decode cX5_hasRow 0 = .ok (.iload_n 1, 1) := by decide +kernel
theorem dX5_hasRow_1 : decode cX5_hasRow 1 = .ok (.ifCond .lt 15, 3) := by decide +kernel
theorem dX5_hasRow_4 : decode cX5_hasRow 4 = .ok (.iload_n 1, 1) := by decide +kernel
theorem dX5_hasRow_5 : decode cX5_hasRow 5 = .ok (.aload_n 0, 1) := by decide +kernel
theorem dX5_hasRow_6 : decode cX5_hasRow 6 = .ok (.getfield 17, 3) := by decide +kernel
theorem dX5_hasRow_9 : decode cX5_hasRow 9 = .ok (.if_icmp .ge 7, 3) := by decide +kernel
theorem dX5_hasRow_12 : decode cX5_hasRow 12 = .ok (.iconst 1, 1) := by decide +kernel
theorem dX5_hasRow_13 : decode cX5_hasRow 13 = .ok (.goto 4, 3) := by decide +kernel
theorem dX5_hasRow_16 : decode cX5_hasRow 16 = .ok (.iconst 0, 1) := by decide +kernel
theorem dX5_hasRow_17 : decode cX5_hasRow 17 = .ok (.ireturn, 1) := by decide +kernel
theorem dX5_isFull_0 : decode cX5_isFull 0 = .ok (.aload_n 0, 1) := by decide +kernel
theorem dX5_isFull_1 : decode cX5_isFull 1 = .ok (.getfield 17, 3) := by decide +kernel
theorem dX5_isFull_4 : decode cX5_isFull 4 = .ok (.bipush 120, 2) := by decide +kernel
theorem dX5_isFull_6 : decode cX5_isFull 6 = .ok (.if_icmp .lt 7, 3) := by decide +kernel
theorem dX5_isFull_9 : decode cX5_isFull 9 = .ok (.iconst 1, 1) := by decide +kernel
theorem dX5_isFull_10 : decode cX5_isFull 10 = .ok (.goto 4, 3) := by decide +kernel
theorem dX5_isFull_13 : decode cX5_isFull 13 = .ok (.iconst 0, 1) := by decide +kernel
theorem dX5_isFull_14 : decode cX5_isFull 14 = .ok (.ireturn, 1) := by decide +kernel
theorem dX5_bitsOf_0 : decode cX5_bitsOf 0 = .ok (.aload_n 0, 1) := by decide +kernel
theorem dX5_bitsOf_1 : decode cX5_bitsOf 1 = .ok (.getfield 11, 3) := by decide +kernel
theorem dX5_bitsOf_4 : decode cX5_bitsOf 4 = .ok (.iload_n 1, 1) := by decide +kernel
theorem dX5_bitsOf_5 : decode cX5_bitsOf 5 = .ok (.bipush 20, 2) := by decide +kernel
theorem dX5_bitsOf_7 : decode cX5_bitsOf 7 = .ok (.imul, 1) := by decide +kernel
theorem dX5_bitsOf_8 : decode cX5_bitsOf 8 = .ok (.iload_n 2, 1) := by decide +kernel
theorem dX5_bitsOf_9 : decode cX5_bitsOf 9 = .ok (.iadd, 1) := by decide +kernel
theorem dX5_bitsOf_10 : decode cX5_bitsOf 10 = .ok (.aaload, 1) := by decide +kernel
theorem dX5_bitsOf_11 : decode cX5_bitsOf 11 = .ok (.areturn, 1) := by decide +kernel
theorem dX5_valueOf_0 : decode cX5_valueOf 0 = .ok (.iconst 0, 1) := by decide +kernel
theorem dX5_valueOf_1 : decode cX5_valueOf 1 = .ok (.istore_n 3, 1) := by decide +kernel
theorem dX5_valueOf_2 : decode cX5_valueOf 2 = .ok (.iconst 0, 1) := by decide +kernel
theorem dX5_valueOf_3 : decode cX5_valueOf 3 = .ok (.istore 4, 2) := by decide +kernel
theorem dX5_valueOf_5 : decode cX5_valueOf 5 = .ok (.iload 4, 2) := by decide +kernel
theorem dX5_valueOf_7 : decode cX5_valueOf 7 = .ok (.iconst 4, 1) := by decide +kernel
theorem dX5_valueOf_8 : decode cX5_valueOf 8 = .ok (.if_icmp .ge 33, 3) := by decide +kernel
theorem dX5_valueOf_11 : decode cX5_valueOf 11 = .ok (.aload_n 0, 1) := by decide +kernel
theorem dX5_valueOf_12 : decode cX5_valueOf 12 = .ok (.iload_n 2, 1) := by decide +kernel
theorem dX5_valueOf_13 : decode cX5_valueOf 13 = .ok (.bipush 16, 2) := by decide +kernel
theorem dX5_valueOf_15 : decode cX5_valueOf 15 = .ok (.iload 4, 2) := by decide +kernel
theorem dX5_valueOf_17 : decode cX5_valueOf 17 = .ok (.iadd, 1) := by decide +kernel
theorem dX5_valueOf_18 : decode cX5_valueOf 18 = .ok (.invokevirtual 22, 3) := by decide +kernel
theorem dX5_valueOf_21 : decode cX5_valueOf 21 = .ok (.iload_n 1, 1) := by decide +kernel
theorem dX5_valueOf_22 : decode cX5_valueOf 22 = .ok (.invokevirtual 26, 3) := by decide +kernel
theorem dX5_valueOf_25 : decode cX5_valueOf 25 = .ok (.ifCond .eq 10, 3) := by decide +kernel
theorem dX5_valueOf_28 : decode cX5_valueOf 28 = .ok (.iload_n 3, 1) := by decide +kernel
theorem dX5_valueOf_29 : decode cX5_valueOf 29 = .ok (.iconst 1, 1) := by decide +kernel
theorem dX5_valueOf_30 : decode cX5_valueOf 30 = .ok (.iload 4, 2) := by decide +kernel
theorem dX5_valueOf_32 : decode cX5_valueOf 32 = .ok (.ishl, 1) := by decide +kernel
theorem dX5_valueOf_33 : decode cX5_valueOf 33 = .ok (.ior, 1) := by decide +kernel
theorem dX5_valueOf_34 : decode cX5_valueOf 34 = .ok (.istore_n 3, 1) := by decide +kernel
theorem dX5_valueOf_35 : decode cX5_valueOf 35 = .ok (.iinc 4 1, 3) := by decide +kernel
theorem dX5_valueOf_38 : decode cX5_valueOf 38 = .ok (.goto (-33), 3) := by decide +kernel
theorem dX5_valueOf_41 : decode cX5_valueOf 41 = .ok (.iload_n 3, 1) := by decide +kernel
theorem dX5_valueOf_42 : decode cX5_valueOf 42 = .ok (.ireturn, 1) := by decide +kernel
theorem dX5_append_0 : decode cX5_append 0 = .ok (.aload_n 0, 1) := by decide +kernel
theorem dX5_append_1 : decode cX5_append 1 = .ok (.iconst 0, 1) := by decide +kernel
theorem dX5_append_2 : decode cX5_append 2 = .ok (.iload_n 1, 1) := by decide +kernel
theorem dX5_append_3 : decode cX5_append 3 = .ok (.invokevirtual 30, 3) := by decide +kernel
theorem dX5_append_6 : decode cX5_append 6 = .ok (.aload_n 0, 1) := by decide +kernel
theorem dX5_append_7 : decode cX5_append 7 = .ok (.iconst 1, 1) := by decide +kernel
theorem dX5_append_8 : decode cX5_append 8 = .ok (.iload_n 2, 1) := by decide +kernel
theorem dX5_append_9 : decode cX5_append 9 = .ok (.invokevirtual 30, 3) := by decide +kernel
theorem dX5_append_12 : decode cX5_append 12 = .ok (.aload_n 0, 1) := by decide +kernel
theorem dX5_append_13 : decode cX5_append 13 = .ok (.iconst 2, 1) := by decide +kernel
theorem dX5_append_14 : decode cX5_append 14 = .ok (.iload_n 3, 1) := by decide +kernel
theorem dX5_append_15 : decode cX5_append 15 = .ok (.invokevirtual 30, 3) := by decide +kernel
theorem dX5_append_18 : decode cX5_append 18 = .ok (.aload_n 0, 1) := by decide +kernel
theorem dX5_append_19 : decode cX5_append 19 = .ok (.iconst 3, 1) := by decide +kernel
theorem dX5_append_20 : decode cX5_append 20 = .ok (.iload 4, 2) := by decide +kernel
theorem dX5_append_22 : decode cX5_append 22 = .ok (.invokevirtual 30, 3) := by decide +kernel
theorem dX5_append_25 : decode cX5_append 25 = .ok (.aload_n 0, 1) := by decide +kernel
theorem dX5_append_26 : decode cX5_append 26 = .ok (.dup, 1) := by decide +kernel
theorem dX5_append_27 : decode cX5_append 27 = .ok (.getfield 17, 3) := by decide +kernel
theorem dX5_append_30 : decode cX5_append 30 = .ok (.iconst 1, 1) := by decide +kernel
theorem dX5_append_31 : decode cX5_append 31 = .ok (.iadd, 1) := by decide +kernel
theorem dX5_append_32 : decode cX5_append 32 = .ok (.putfield 17, 3) := by decide +kernel
theorem dX5_append_35 : decode cX5_append 35 = .ok (.return_, 1) := by decide +kernel
theorem dX5_appendLike_0 : decode cX5_appendLike 0 = .ok (.aload_n 0, 1) := by decide +kernel
theorem dX5_appendLike_1 : decode cX5_appendLike 1 = .ok (.aload_n 0, 1) := by decide +kernel
theorem dX5_appendLike_2 : decode cX5_appendLike 2 = .ok (.iload_n 1, 1) := by decide +kernel
theorem dX5_appendLike_3 : decode cX5_appendLike 3 = .ok (.iconst 0, 1) := by decide +kernel
theorem dX5_appendLike_4 : decode cX5_appendLike 4 = .ok (.invokevirtual 34, 3) := by decide +kernel
theorem dX5_appendLike_7 : decode cX5_appendLike 7 = .ok (.aload_n 0, 1) := by decide +kernel
theorem dX5_appendLike_8 : decode cX5_appendLike 8 = .ok (.iload_n 1, 1) := by decide +kernel
theorem dX5_appendLike_9 : decode cX5_appendLike 9 = .ok (.iconst 1, 1) := by decide +kernel
theorem dX5_appendLike_10 : decode cX5_appendLike 10 = .ok (.invokevirtual 34, 3) := by decide +kernel
theorem dX5_appendLike_13 : decode cX5_appendLike 13 = .ok (.aload_n 0, 1) := by decide +kernel
theorem dX5_appendLike_14 : decode cX5_appendLike 14 = .ok (.iload_n 1, 1) := by decide +kernel
theorem dX5_appendLike_15 : decode cX5_appendLike 15 = .ok (.iconst 2, 1) := by decide +kernel
theorem dX5_appendLike_16 : decode cX5_appendLike 16 = .ok (.invokevirtual 34, 3) := by decide +kernel
theorem dX5_appendLike_19 : decode cX5_appendLike 19 = .ok (.aload_n 0, 1) := by decide +kernel
theorem dX5_appendLike_20 : decode cX5_appendLike 20 = .ok (.iload_n 1, 1) := by decide +kernel
theorem dX5_appendLike_21 : decode cX5_appendLike 21 = .ok (.iconst 3, 1) := by decide +kernel
theorem dX5_appendLike_22 : decode cX5_appendLike 22 = .ok (.invokevirtual 34, 3) := by decide +kernel
theorem dX5_appendLike_25 : decode cX5_appendLike 25 = .ok (.invokevirtual 38, 3) := by decide +kernel
theorem dX5_appendLike_28 : decode cX5_appendLike 28 = .ok (.return_, 1) := by decide +kernel
theorem dX5_putLast_0 : decode cX5_putLast 0 = .ok (.aload_n 0, 1) := by decide +kernel
theorem dX5_putLast_1 : decode cX5_putLast 1 = .ok (.iload_n 1, 1) := by decide +kernel
theorem dX5_putLast_2 : decode cX5_putLast 2 = .ok (.iload_n 2, 1) := by decide +kernel
theorem dX5_putLast_3 : decode cX5_putLast 3 = .ok (.invokevirtual 22, 3) := by decide +kernel
theorem dX5_putLast_6 : decode cX5_putLast 6 = .ok (.aload_n 0, 1) := by decide +kernel
theorem dX5_putLast_7 : decode cX5_putLast 7 = .ok (.getfield 17, 3) := by decide +kernel
theorem dX5_putLast_10 : decode cX5_putLast 10 = .ok (.invokevirtual 42, 3) := by decide +kernel
theorem dX5_putLast_13 : decode cX5_putLast 13 = .ok (.iconst 0, 1) := by decide +kernel
theorem dX5_putLast_14 : decode cX5_putLast 14 = .ok (.istore_n 3, 1) := by decide +kernel
theorem dX5_putLast_15 : decode cX5_putLast 15 = .ok (.iload_n 3, 1) := by decide +kernel
theorem dX5_putLast_16 : decode cX5_putLast 16 = .ok (.iconst 4, 1) := by decide +kernel
theorem dX5_putLast_17 : decode cX5_putLast 17 = .ok (.if_icmp .ge 33, 3) := by decide +kernel
theorem dX5_putLast_20 : decode cX5_putLast 20 = .ok (.iload_n 2, 1) := by decide +kernel
theorem dX5_putLast_21 : decode cX5_putLast 21 = .ok (.iload_n 3, 1) := by decide +kernel
theorem dX5_putLast_22 : decode cX5_putLast 22 = .ok (.ishr, 1) := by decide +kernel
theorem dX5_putLast_23 : decode cX5_putLast 23 = .ok (.iconst 1, 1) := by decide +kernel
theorem dX5_putLast_24 : decode cX5_putLast 24 = .ok (.iand, 1) := by decide +kernel
theorem dX5_putLast_25 : decode cX5_putLast 25 = .ok (.ifCond .eq 19, 3) := by decide +kernel
theorem dX5_putLast_28 : decode cX5_putLast 28 = .ok (.aload_n 0, 1) := by decide +kernel
theorem dX5_putLast_29 : decode cX5_putLast 29 = .ok (.iload_n 1, 1) := by decide +kernel
theorem dX5_putLast_30 : decode cX5_putLast 30 = .ok (.bipush 16, 2) := by decide +kernel
theorem dX5_putLast_32 : decode cX5_putLast 32 = .ok (.iload_n 3, 1) := by decide +kernel
theorem dX5_putLast_33 : decode cX5_putLast 33 = .ok (.iadd, 1) := by decide +kernel
theorem dX5_putLast_34 : decode cX5_putLast 34 = .ok (.invokevirtual 22, 3) := by decide +kernel
theorem dX5_putLast_37 : decode cX5_putLast 37 = .ok (.aload_n 0, 1) := by decide +kernel
theorem dX5_putLast_38 : decode cX5_putLast 38 = .ok (.getfield 17, 3) := by decide +kernel
theorem dX5_putLast_41 : decode cX5_putLast 41 = .ok (.invokevirtual 42, 3) := by decide +kernel
theorem dX5_putLast_44 : decode cX5_putLast 44 = .ok (.iinc 3 1, 3) := by decide +kernel
theorem dX5_putLast_47 : decode cX5_putLast 47 = .ok (.goto (-32), 3) := by decide +kernel
theorem dX5_putLast_50 : decode cX5_putLast 50 = .ok (.return_, 1) := by decide +kernel
theorem dX5_cutTo_0 : decode cX5_cutTo 0 = .ok (.iload_n 1, 1) := by decide +kernel
theorem dX5_cutTo_1 : decode cX5_cutTo 1 = .ok (.aload_n 0, 1) := by decide +kernel
theorem dX5_cutTo_2 : decode cX5_cutTo 2 = .ok (.getfield 17, 3) := by decide +kernel
theorem dX5_cutTo_5 : decode cX5_cutTo 5 = .ok (.if_icmp .lt 4, 3) := by decide +kernel
theorem dX5_cutTo_8 : decode cX5_cutTo 8 = .ok (.return_, 1) := by decide +kernel
theorem dX5_cutTo_9 : decode cX5_cutTo 9 = .ok (.iconst 0, 1) := by decide +kernel
theorem dX5_cutTo_10 : decode cX5_cutTo 10 = .ok (.istore_n 2, 1) := by decide +kernel
theorem dX5_cutTo_11 : decode cX5_cutTo 11 = .ok (.iload_n 2, 1) := by decide +kernel
theorem dX5_cutTo_12 : decode cX5_cutTo 12 = .ok (.bipush 80, 2) := by decide +kernel
theorem dX5_cutTo_14 : decode cX5_cutTo 14 = .ok (.if_icmp .ge 19, 3) := by decide +kernel
theorem dX5_cutTo_17 : decode cX5_cutTo 17 = .ok (.aload_n 0, 1) := by decide +kernel
theorem dX5_cutTo_18 : decode cX5_cutTo 18 = .ok (.getfield 11, 3) := by decide +kernel
theorem dX5_cutTo_21 : decode cX5_cutTo 21 = .ok (.iload_n 2, 1) := by decide +kernel
theorem dX5_cutTo_22 : decode cX5_cutTo 22 = .ok (.aaload, 1) := by decide +kernel
theorem dX5_cutTo_23 : decode cX5_cutTo 23 = .ok (.iload_n 1, 1) := by decide +kernel
theorem dX5_cutTo_24 : decode cX5_cutTo 24 = .ok (.invokevirtual 46, 3) := by decide +kernel
theorem dX5_cutTo_27 : decode cX5_cutTo 27 = .ok (.iinc 2 1, 3) := by decide +kernel
theorem dX5_cutTo_30 : decode cX5_cutTo 30 = .ok (.goto (-19), 3) := by decide +kernel
theorem dX5_cutTo_33 : decode cX5_cutTo 33 = .ok (.aload_n 0, 1) := by decide +kernel
theorem dX5_cutTo_34 : decode cX5_cutTo 34 = .ok (.iload_n 1, 1) := by decide +kernel
theorem dX5_cutTo_35 : decode cX5_cutTo 35 = .ok (.putfield 17, 3) := by decide +kernel
theorem dX5_cutTo_38 : decode cX5_cutTo 38 = .ok (.return_, 1) := by decide +kernel
theorem dX5_become_0 : decode cX5_become 0 = .ok (.iconst 0, 1) := by decide +kernel
theorem dX5_become_1 : decode cX5_become 1 = .ok (.istore_n 2, 1) := by decide +kernel
theorem dX5_become_2 : decode cX5_become 2 = .ok (.iload_n 2, 1) := by decide +kernel
theorem dX5_become_3 : decode cX5_become 3 = .ok (.bipush 80, 2) := by decide +kernel
theorem dX5_become_5 : decode cX5_become 5 = .ok (.if_icmp .ge 24, 3) := by decide +kernel
theorem dX5_become_8 : decode cX5_become 8 = .ok (.aload_n 0, 1) := by decide +kernel
theorem dX5_become_9 : decode cX5_become 9 = .ok (.getfield 11, 3) := by decide +kernel
theorem dX5_become_12 : decode cX5_become 12 = .ok (.iload_n 2, 1) := by decide +kernel
theorem dX5_become_13 : decode cX5_become 13 = .ok (.aaload, 1) := by decide +kernel
theorem dX5_become_14 : decode cX5_become 14 = .ok (.aload_n 1, 1) := by decide +kernel
theorem dX5_become_15 : decode cX5_become 15 = .ok (.getfield 11, 3) := by decide +kernel
theorem dX5_become_18 : decode cX5_become 18 = .ok (.iload_n 2, 1) := by decide +kernel
theorem dX5_become_19 : decode cX5_become 19 = .ok (.aaload, 1) := by decide +kernel
theorem dX5_become_20 : decode cX5_become 20 = .ok (.invokevirtual 49, 3) := by decide +kernel
theorem dX5_become_23 : decode cX5_become 23 = .ok (.iinc 2 1, 3) := by decide +kernel
theorem dX5_become_26 : decode cX5_become 26 = .ok (.goto (-24), 3) := by decide +kernel
theorem dX5_become_29 : decode cX5_become 29 = .ok (.aload_n 0, 1) := by decide +kernel
theorem dX5_become_30 : decode cX5_become 30 = .ok (.aload_n 1, 1) := by decide +kernel
theorem dX5_become_31 : decode cX5_become 31 = .ok (.getfield 17, 3) := by decide +kernel
theorem dX5_become_34 : decode cX5_become 34 = .ok (.putfield 17, 3) := by decide +kernel
theorem dX5_become_37 : decode cX5_become 37 = .ok (.return_, 1) := by decide +kernel
theorem dX5_runsOfSlices_0 : decode cX5_runsOfSlices 0 = .ok (.iconst 0, 1) := by decide +kernel
theorem dX5_runsOfSlices_1 : decode cX5_runsOfSlices 1 = .ok (.istore_n 2, 1) := by decide +kernel
theorem dX5_runsOfSlices_2 : decode cX5_runsOfSlices 2 = .ok (.iconst 0, 1) := by decide +kernel
theorem dX5_runsOfSlices_3 : decode cX5_runsOfSlices 3 = .ok (.istore_n 3, 1) := by decide +kernel
theorem dX5_runsOfSlices_4 : decode cX5_runsOfSlices 4 = .ok (.iload_n 3, 1) := by decide +kernel
theorem dX5_runsOfSlices_5 : decode cX5_runsOfSlices 5 = .ok (.iconst 4, 1) := by decide +kernel
theorem dX5_runsOfSlices_6 : decode cX5_runsOfSlices 6 = .ok (.if_icmp .ge 28, 3) := by decide +kernel
theorem dX5_runsOfSlices_9 : decode cX5_runsOfSlices 9 = .ok (.iload_n 2, 1) := by decide +kernel
theorem dX5_runsOfSlices_10 : decode cX5_runsOfSlices 10 = .ok (.aload_n 0, 1) := by decide +kernel
theorem dX5_runsOfSlices_11 : decode cX5_runsOfSlices 11 = .ok (.iload_n 1, 1) := by decide +kernel
theorem dX5_runsOfSlices_12 : decode cX5_runsOfSlices 12 = .ok (.bipush 16, 2) := by decide +kernel
theorem dX5_runsOfSlices_14 : decode cX5_runsOfSlices 14 = .ok (.iload_n 3, 1) := by decide +kernel
theorem dX5_runsOfSlices_15 : decode cX5_runsOfSlices 15 = .ok (.iadd, 1) := by decide +kernel
theorem dX5_runsOfSlices_16 : decode cX5_runsOfSlices 16 = .ok (.invokevirtual 22, 3) := by decide +kernel
theorem dX5_runsOfSlices_19 : decode cX5_runsOfSlices 19 = .ok (.aload_n 0, 1) := by decide +kernel
theorem dX5_runsOfSlices_20 : decode cX5_runsOfSlices 20 = .ok (.getfield 17, 3) := by decide +kernel
theorem dX5_runsOfSlices_23 : decode cX5_runsOfSlices 23 = .ok (.invokevirtual 53, 3) := by decide +kernel
theorem dX5_runsOfSlices_26 : decode cX5_runsOfSlices 26 = .ok (.iadd, 1) := by decide +kernel
theorem dX5_runsOfSlices_27 : decode cX5_runsOfSlices 27 = .ok (.istore_n 2, 1) := by decide +kernel
theorem dX5_runsOfSlices_28 : decode cX5_runsOfSlices 28 = .ok (.iinc 3 1, 3) := by decide +kernel
theorem dX5_runsOfSlices_31 : decode cX5_runsOfSlices 31 = .ok (.goto (-27), 3) := by decide +kernel
theorem dX5_runsOfSlices_34 : decode cX5_runsOfSlices 34 = .ok (.iload_n 2, 1) := by decide +kernel
theorem dX5_runsOfSlices_35 : decode cX5_runsOfSlices 35 = .ok (.ireturn, 1) := by decide +kernel
theorem dX6_init_0 : decode cX6_init 0 = .ok (.aload_n 0, 1) := by decide +kernel
theorem dX6_init_1 : decode cX6_init 1 = .ok (.invokespecial 3, 3) := by decide +kernel
theorem dX6_init_4 : decode cX6_init 4 = .ok (.aload_n 0, 1) := by decide +kernel
theorem dX6_init_5 : decode cX6_init 5 = .ok (.new 9, 3) := by decide +kernel
theorem dX6_init_8 : decode cX6_init 8 = .ok (.dup, 1) := by decide +kernel
theorem dX6_init_9 : decode cX6_init 9 = .ok (.invokespecial 11, 3) := by decide +kernel
theorem dX6_init_12 : decode cX6_init 12 = .ok (.putfield 12, 3) := by decide +kernel
theorem dX6_init_15 : decode cX6_init 15 = .ok (.aload_n 0, 1) := by decide +kernel
theorem dX6_init_16 : decode cX6_init 16 = .ok (.bipush 10, 2) := by decide +kernel
theorem dX6_init_18 : decode cX6_init 18 = .ok (.newarray .int, 2) := by decide +kernel
theorem dX6_init_20 : decode cX6_init 20 = .ok (.putfield 18, 3) := by decide +kernel
theorem dX6_init_23 : decode cX6_init 23 = .ok (.aload_n 0, 1) := by decide +kernel
theorem dX6_init_24 : decode cX6_init 24 = .ok (.iconst 0, 1) := by decide +kernel
theorem dX6_init_25 : decode cX6_init 25 = .ok (.putfield 22, 3) := by decide +kernel
theorem dX6_init_28 : decode cX6_init 28 = .ok (.aload_n 0, 1) := by decide +kernel
theorem dX6_init_29 : decode cX6_init 29 = .ok (.new 26, 3) := by decide +kernel
theorem dX6_init_32 : decode cX6_init 32 = .ok (.dup, 1) := by decide +kernel
theorem dX6_init_33 : decode cX6_init 33 = .ok (.bipush 6, 2) := by decide +kernel
theorem dX6_init_35 : decode cX6_init 35 = .ok (.invokespecial 28, 3) := by decide +kernel
theorem dX6_init_38 : decode cX6_init 38 = .ok (.putfield 31, 3) := by decide +kernel
theorem dX6_init_41 : decode cX6_init 41 = .ok (.aload_n 0, 1) := by decide +kernel
theorem dX6_init_42 : decode cX6_init 42 = .ok (.new 26, 3) := by decide +kernel
theorem dX6_init_45 : decode cX6_init 45 = .ok (.dup, 1) := by decide +kernel
theorem dX6_init_46 : decode cX6_init 46 = .ok (.bipush 10, 2) := by decide +kernel
theorem dX6_init_48 : decode cX6_init 48 = .ok (.invokespecial 28, 3) := by decide +kernel
theorem dX6_init_51 : decode cX6_init 51 = .ok (.putfield 35, 3) := by decide +kernel
theorem dX6_init_54 : decode cX6_init 54 = .ok (.aload_n 0, 1) := by decide +kernel
theorem dX6_init_55 : decode cX6_init 55 = .ok (.new 26, 3) := by decide +kernel
theorem dX6_init_58 : decode cX6_init 58 = .ok (.dup, 1) := by decide +kernel
theorem dX6_init_59 : decode cX6_init 59 = .ok (.bipush 8, 2) := by decide +kernel
theorem dX6_init_61 : decode cX6_init 61 = .ok (.invokespecial 28, 3) := by decide +kernel
theorem dX6_init_64 : decode cX6_init 64 = .ok (.putfield 38, 3) := by decide +kernel
theorem dX6_init_67 : decode cX6_init 67 = .ok (.return_, 1) := by decide +kernel
theorem dX6_hasMark_0 : decode cX6_hasMark 0 = .ok (.iload_n 1, 1) := by decide +kernel
theorem dX6_hasMark_1 : decode cX6_hasMark 1 = .ok (.ifCond .lt 15, 3) := by decide +kernel
theorem dX6_hasMark_4 : decode cX6_hasMark 4 = .ok (.iload_n 1, 1) := by decide +kernel
theorem dX6_hasMark_5 : decode cX6_hasMark 5 = .ok (.aload_n 0, 1) := by decide +kernel
theorem dX6_hasMark_6 : decode cX6_hasMark 6 = .ok (.getfield 22, 3) := by decide +kernel
theorem dX6_hasMark_9 : decode cX6_hasMark 9 = .ok (.if_icmp .ge 7, 3) := by decide +kernel
theorem dX6_hasMark_12 : decode cX6_hasMark 12 = .ok (.iconst 1, 1) := by decide +kernel
theorem dX6_hasMark_13 : decode cX6_hasMark 13 = .ok (.goto 4, 3) := by decide +kernel
theorem dX6_hasMark_16 : decode cX6_hasMark 16 = .ok (.iconst 0, 1) := by decide +kernel
theorem dX6_hasMark_17 : decode cX6_hasMark 17 = .ok (.ireturn, 1) := by decide +kernel
theorem dX6_become_0 : decode cX6_become 0 = .ok (.aload_n 0, 1) := by decide +kernel
theorem dX6_become_1 : decode cX6_become 1 = .ok (.getfield 12, 3) := by decide +kernel
theorem dX6_become_4 : decode cX6_become 4 = .ok (.aload_n 1, 1) := by decide +kernel
theorem dX6_become_5 : decode cX6_become 5 = .ok (.getfield 12, 3) := by decide +kernel
theorem dX6_become_8 : decode cX6_become 8 = .ok (.invokevirtual 41, 3) := by decide +kernel
theorem dX6_become_11 : decode cX6_become 11 = .ok (.aload_n 1, 1) := by decide +kernel
theorem dX6_become_12 : decode cX6_become 12 = .ok (.getfield 18, 3) := by decide +kernel
theorem dX6_become_15 : decode cX6_become 15 = .ok (.iconst 0, 1) := by decide +kernel
theorem dX6_become_16 : decode cX6_become 16 = .ok (.aload_n 0, 1) := by decide +kernel
theorem dX6_become_17 : decode cX6_become 17 = .ok (.getfield 18, 3) := by decide +kernel
theorem dX6_become_20 : decode cX6_become 20 = .ok (.iconst 0, 1) := by decide +kernel
theorem dX6_become_21 : decode cX6_become 21 = .ok (.bipush 10, 2) := by decide +kernel
theorem dX6_become_23 : decode cX6_become 23 = .ok (.invokestatic 45, 3) := by decide +kernel
theorem dX6_become_26 : decode cX6_become 26 = .ok (.aload_n 0, 1) := by decide +kernel
theorem dX6_become_27 : decode cX6_become 27 = .ok (.aload_n 1, 1) := by decide +kernel
theorem dX6_become_28 : decode cX6_become 28 = .ok (.getfield 22, 3) := by decide +kernel
theorem dX6_become_31 : decode cX6_become 31 = .ok (.putfield 22, 3) := by decide +kernel
theorem dX6_become_34 : decode cX6_become 34 = .ok (.aload_n 0, 1) := by decide +kernel
theorem dX6_become_35 : decode cX6_become 35 = .ok (.getfield 31, 3) := by decide +kernel
theorem dX6_become_38 : decode cX6_become 38 = .ok (.aload_n 1, 1) := by decide +kernel
theorem dX6_become_39 : decode cX6_become 39 = .ok (.getfield 31, 3) := by decide +kernel
theorem dX6_become_42 : decode cX6_become 42 = .ok (.invokevirtual 51, 3) := by decide +kernel
theorem dX6_become_45 : decode cX6_become 45 = .ok (.aload_n 0, 1) := by decide +kernel
theorem dX6_become_46 : decode cX6_become 46 = .ok (.getfield 35, 3) := by decide +kernel
theorem dX6_become_49 : decode cX6_become 49 = .ok (.aload_n 1, 1) := by decide +kernel
theorem dX6_become_50 : decode cX6_become 50 = .ok (.getfield 35, 3) := by decide +kernel
theorem dX6_become_53 : decode cX6_become 53 = .ok (.invokevirtual 51, 3) := by decide +kernel
theorem dX6_become_56 : decode cX6_become 56 = .ok (.aload_n 0, 1) := by decide +kernel
theorem dX6_become_57 : decode cX6_become 57 = .ok (.getfield 38, 3) := by decide +kernel
theorem dX6_become_60 : decode cX6_become 60 = .ok (.aload_n 1, 1) := by decide +kernel
theorem dX6_become_61 : decode cX6_become 61 = .ok (.getfield 38, 3) := by decide +kernel
theorem dX6_become_64 : decode cX6_become 64 = .ok (.invokevirtual 51, 3) := by decide +kernel
theorem dX6_become_67 : decode cX6_become 67 = .ok (.return_, 1) := by decide +kernel
theorem dX6_isSeenBelow_0 : decode cX6_isSeenBelow 0 = .ok (.iconst 0, 1) := by decide +kernel
theorem dX6_isSeenBelow_1 : decode cX6_isSeenBelow 1 = .ok (.istore_n 3, 1) := by decide +kernel
theorem dX6_isSeenBelow_2 : decode cX6_isSeenBelow 2 = .ok (.iload_n 3, 1) := by decide +kernel
theorem dX6_isSeenBelow_3 : decode cX6_isSeenBelow 3 = .ok (.aload_n 0, 1) := by decide +kernel
theorem dX6_isSeenBelow_4 : decode cX6_isSeenBelow 4 = .ok (.getfield 31, 3) := by decide +kernel
theorem dX6_isSeenBelow_7 : decode cX6_isSeenBelow 7 = .ok (.getfield 54, 3) := by decide +kernel
theorem dX6_isSeenBelow_10 : decode cX6_isSeenBelow 10 = .ok (.if_icmp .ge 79, 3) := by decide +kernel
theorem dX6_isSeenBelow_13 : decode cX6_isSeenBelow 13 = .ok (.aload_n 0, 1) := by decide +kernel
theorem dX6_isSeenBelow_14 : decode cX6_isSeenBelow 14 = .ok (.getfield 31, 3) := by decide +kernel
theorem dX6_isSeenBelow_17 : decode cX6_isSeenBelow 17 = .ok (.getfield 57, 3) := by decide +kernel
theorem dX6_isSeenBelow_20 : decode cX6_isSeenBelow 20 = .ok (.iload_n 3, 1) := by decide +kernel
theorem dX6_isSeenBelow_21 : decode cX6_isSeenBelow 21 = .ok (.iaload, 1) := by decide +kernel
theorem dX6_isSeenBelow_22 : decode cX6_isSeenBelow 22 = .ok (.istore 4, 2) := by decide +kernel
theorem dX6_isSeenBelow_24 : decode cX6_isSeenBelow 24 = .ok (.aload_n 0, 1) := by decide +kernel
theorem dX6_isSeenBelow_25 : decode cX6_isSeenBelow 25 = .ok (.getfield 12, 3) := by decide +kernel
theorem dX6_isSeenBelow_28 : decode cX6_isSeenBelow 28 = .ok (.iload 4, 2) := by decide +kernel
theorem dX6_isSeenBelow_30 : decode cX6_isSeenBelow 30 = .ok (.invokevirtual 60, 3) := by decide +kernel
theorem dX6_isSeenBelow_33 : decode cX6_isSeenBelow 33 = .ok (.ifCond .ne 5, 3) := by decide +kernel
theorem dX6_isSeenBelow_36 : decode cX6_isSeenBelow 36 = .ok (.iconst 0, 1) := by decide +kernel
theorem dX6_isSeenBelow_37 : decode cX6_isSeenBelow 37 = .ok (.ireturn, 1) := by decide +kernel
theorem dX6_isSeenBelow_38 : decode cX6_isSeenBelow 38 = .ok (.aload_n 0, 1) := by decide +kernel
theorem dX6_isSeenBelow_39 : decode cX6_isSeenBelow 39 = .ok (.getfield 12, 3) := by decide +kernel
theorem dX6_isSeenBelow_42 : decode cX6_isSeenBelow 42 = .ok (.iload 4, 2) := by decide +kernel
theorem dX6_isSeenBelow_44 : decode cX6_isSeenBelow 44 = .ok (.iload_n 1, 1) := by decide +kernel
theorem dX6_isSeenBelow_45 : decode cX6_isSeenBelow 45 = .ok (.invokevirtual 64, 3) := by decide +kernel
theorem dX6_isSeenBelow_48 : decode cX6_isSeenBelow 48 = .ok (.iload_n 2, 1) := by decide +kernel
theorem dX6_isSeenBelow_49 : decode cX6_isSeenBelow 49 = .ok (.if_icmp .ge 7, 3) := by decide +kernel
theorem dX6_isSeenBelow_52 : decode cX6_isSeenBelow 52 = .ok (.iconst 1, 1) := by decide +kernel
theorem dX6_isSeenBelow_53 : decode cX6_isSeenBelow 53 = .ok (.goto 4, 3) := by decide +kernel
theorem dX6_isSeenBelow_56 : decode cX6_isSeenBelow 56 = .ok (.iconst 0, 1) := by decide +kernel
theorem dX6_isSeenBelow_57 : decode cX6_isSeenBelow 57 = .ok (.istore 5, 2) := by decide +kernel
theorem dX6_isSeenBelow_59 : decode cX6_isSeenBelow 59 = .ok (.iload 5, 2) := by decide +kernel
theorem dX6_isSeenBelow_61 : decode cX6_isSeenBelow 61 = .ok (.aload_n 0, 1) := by decide +kernel
theorem dX6_isSeenBelow_62 : decode cX6_isSeenBelow 62 = .ok (.getfield 31, 3) := by decide +kernel
theorem dX6_isSeenBelow_65 : decode cX6_isSeenBelow 65 = .ok (.getfield 68, 3) := by decide +kernel
theorem dX6_isSeenBelow_68 : decode cX6_isSeenBelow 68 = .ok (.iload_n 3, 1) := by decide +kernel
theorem dX6_isSeenBelow_69 : decode cX6_isSeenBelow 69 = .ok (.iaload, 1) := by decide +kernel
theorem dX6_isSeenBelow_70 : decode cX6_isSeenBelow 70 = .ok (.ifCond .eq 7, 3) := by decide +kernel
theorem dX6_isSeenBelow_73 : decode cX6_isSeenBelow 73 = .ok (.iconst 1, 1) := by decide +kernel
theorem dX6_isSeenBelow_74 : decode cX6_isSeenBelow 74 = .ok (.goto 4, 3) := by decide +kernel
theorem dX6_isSeenBelow_77 : decode cX6_isSeenBelow 77 = .ok (.iconst 0, 1) := by decide +kernel
theorem dX6_isSeenBelow_78 : decode cX6_isSeenBelow 78 = .ok (.if_icmp .eq 5, 3) := by decide +kernel
theorem dX6_isSeenBelow_81 : decode cX6_isSeenBelow 81 = .ok (.iconst 0, 1) := by decide +kernel
theorem dX6_isSeenBelow_82 : decode cX6_isSeenBelow 82 = .ok (.ireturn, 1) := by decide +kernel
theorem dX6_isSeenBelow_83 : decode cX6_isSeenBelow 83 = .ok (.iinc 3 1, 3) := by decide +kernel
theorem dX6_isSeenBelow_86 : decode cX6_isSeenBelow 86 = .ok (.goto (-84), 3) := by decide +kernel
theorem dX6_isSeenBelow_89 : decode cX6_isSeenBelow 89 = .ok (.iconst 1, 1) := by decide +kernel
theorem dX6_isSeenBelow_90 : decode cX6_isSeenBelow 90 = .ok (.ireturn, 1) := by decide +kernel
theorem dX6_tryPlan_0 : decode cX6_tryPlan 0 = .ok (.aload_n 1, 1) := by decide +kernel
theorem dX6_tryPlan_1 : decode cX6_tryPlan 1 = .ok (.aload_n 0, 1) := by decide +kernel
theorem dX6_tryPlan_2 : decode cX6_tryPlan 2 = .ok (.getfield 12, 3) := by decide +kernel
theorem dX6_tryPlan_5 : decode cX6_tryPlan 5 = .ok (.invokevirtual 41, 3) := by decide +kernel
theorem dX6_tryPlan_8 : decode cX6_tryPlan 8 = .ok (.iconst 0, 1) := by decide +kernel
theorem dX6_tryPlan_9 : decode cX6_tryPlan 9 = .ok (.istore_n 2, 1) := by decide +kernel
theorem dX6_tryPlan_10 : decode cX6_tryPlan 10 = .ok (.iload_n 2, 1) := by decide +kernel
theorem dX6_tryPlan_11 : decode cX6_tryPlan 11 = .ok (.aload_n 0, 1) := by decide +kernel
theorem dX6_tryPlan_12 : decode cX6_tryPlan 12 = .ok (.getfield 35, 3) := by decide +kernel
theorem dX6_tryPlan_15 : decode cX6_tryPlan 15 = .ok (.getfield 54, 3) := by decide +kernel
theorem dX6_tryPlan_18 : decode cX6_tryPlan 18 = .ok (.if_icmp .ge 32, 3) := by decide +kernel
theorem dX6_tryPlan_21 : decode cX6_tryPlan 21 = .ok (.aload_n 0, 1) := by decide +kernel
theorem dX6_tryPlan_22 : decode cX6_tryPlan 22 = .ok (.aload_n 0, 1) := by decide +kernel
theorem dX6_tryPlan_23 : decode cX6_tryPlan 23 = .ok (.getfield 35, 3) := by decide +kernel
theorem dX6_tryPlan_26 : decode cX6_tryPlan 26 = .ok (.getfield 57, 3) := by decide +kernel
theorem dX6_tryPlan_29 : decode cX6_tryPlan 29 = .ok (.iload_n 2, 1) := by decide +kernel
theorem dX6_tryPlan_30 : decode cX6_tryPlan 30 = .ok (.iaload, 1) := by decide +kernel
theorem dX6_tryPlan_31 : decode cX6_tryPlan 31 = .ok (.aload_n 0, 1) := by decide +kernel
theorem dX6_tryPlan_32 : decode cX6_tryPlan 32 = .ok (.getfield 35, 3) := by decide +kernel
theorem dX6_tryPlan_35 : decode cX6_tryPlan 35 = .ok (.getfield 68, 3) := by decide +kernel
theorem dX6_tryPlan_38 : decode cX6_tryPlan 38 = .ok (.iload_n 2, 1) := by decide +kernel
theorem dX6_tryPlan_39 : decode cX6_tryPlan 39 = .ok (.iaload, 1) := by decide +kernel
theorem dX6_tryPlan_40 : decode cX6_tryPlan 40 = .ok (.aload_n 1, 1) := by decide +kernel
theorem dX6_tryPlan_41 : decode cX6_tryPlan 41 = .ok (.invokevirtual 71, 3) := by decide +kernel
theorem dX6_tryPlan_44 : decode cX6_tryPlan 44 = .ok (.iinc 2 1, 3) := by decide +kernel
theorem dX6_tryPlan_47 : decode cX6_tryPlan 47 = .ok (.goto (-37), 3) := by decide +kernel
theorem dX6_tryPlan_50 : decode cX6_tryPlan 50 = .ok (.return_, 1) := by decide +kernel
theorem dX6_tryStep_0 : decode cX6_tryStep 0 = .ok (.iload_n 1, 1) := by decide +kernel
theorem dX6_tryStep_1 : decode cX6_tryStep 1 = .ok (.ifCond .ne 23, 3) := by decide +kernel
theorem dX6_tryStep_4 : decode cX6_tryStep 4 = .ok (.aload_n 3, 1) := by decide +kernel
theorem dX6_tryStep_5 : decode cX6_tryStep 5 = .ok (.getfield 75, 3) := by decide +kernel
theorem dX6_tryStep_8 : decode cX6_tryStep 8 = .ok (.ifCond .le 62, 3) := by decide +kernel
theorem dX6_tryStep_11 : decode cX6_tryStep 11 = .ok (.aload_n 3, 1) := by decide +kernel
theorem dX6_tryStep_12 : decode cX6_tryStep 12 = .ok (.aload_n 3, 1) := by decide +kernel
theorem dX6_tryStep_13 : decode cX6_tryStep 13 = .ok (.getfield 75, 3) := by decide +kernel
theorem dX6_tryStep_16 : decode cX6_tryStep 16 = .ok (.iconst 1, 1) := by decide +kernel
theorem dX6_tryStep_17 : decode cX6_tryStep 17 = .ok (.isub, 1) := by decide +kernel
theorem dX6_tryStep_18 : decode cX6_tryStep 18 = .ok (.invokevirtual 76, 3) := by decide +kernel
theorem dX6_tryStep_21 : decode cX6_tryStep 21 = .ok (.goto 49, 3) := by decide +kernel
theorem dX6_tryStep_24 : decode cX6_tryStep 24 = .ok (.iload_n 1, 1) := by decide +kernel
theorem dX6_tryStep_25 : decode cX6_tryStep 25 = .ok (.iconst 1, 1) := by decide +kernel
theorem dX6_tryStep_26 : decode cX6_tryStep 26 = .ok (.if_icmp .ne 26, 3) := by decide +kernel
theorem dX6_tryStep_29 : decode cX6_tryStep 29 = .ok (.aload_n 3, 1) := by decide +kernel
theorem dX6_tryStep_30 : decode cX6_tryStep 30 = .ok (.iload_n 2, 1) := by decide +kernel
theorem dX6_tryStep_31 : decode cX6_tryStep 31 = .ok (.invokevirtual 60, 3) := by decide +kernel
theorem dX6_tryStep_34 : decode cX6_tryStep 34 = .ok (.ifCond .eq 36, 3) := by decide +kernel
theorem dX6_tryStep_37 : decode cX6_tryStep 37 = .ok (.aload_n 3, 1) := by decide +kernel
theorem dX6_tryStep_38 : decode cX6_tryStep 38 = .ok (.invokevirtual 79, 3) := by decide +kernel
theorem dX6_tryStep_41 : decode cX6_tryStep 41 = .ok (.ifCond .ne 29, 3) := by decide +kernel
theorem dX6_tryStep_44 : decode cX6_tryStep 44 = .ok (.aload_n 3, 1) := by decide +kernel
theorem dX6_tryStep_45 : decode cX6_tryStep 45 = .ok (.iload_n 2, 1) := by decide +kernel
theorem dX6_tryStep_46 : decode cX6_tryStep 46 = .ok (.invokevirtual 83, 3) := by decide +kernel
theorem dX6_tryStep_49 : decode cX6_tryStep 49 = .ok (.goto 21, 3) := by decide +kernel
theorem dX6_tryStep_52 : decode cX6_tryStep 52 = .ok (.aload_n 0, 1) := by decide +kernel
theorem dX6_tryStep_53 : decode cX6_tryStep 53 = .ok (.iload_n 2, 1) := by decide +kernel
theorem dX6_tryStep_54 : decode cX6_tryStep 54 = .ok (.invokevirtual 86, 3) := by decide +kernel
theorem dX6_tryStep_57 : decode cX6_tryStep 57 = .ok (.ifCond .eq 13, 3) := by decide +kernel
theorem dX6_tryStep_60 : decode cX6_tryStep 60 = .ok (.aload_n 3, 1) := by decide +kernel
theorem dX6_tryStep_61 : decode cX6_tryStep 61 = .ok (.aload_n 0, 1) := by decide +kernel
theorem dX6_tryStep_62 : decode cX6_tryStep 62 = .ok (.getfield 18, 3) := by decide +kernel
theorem dX6_tryStep_65 : decode cX6_tryStep 65 = .ok (.iload_n 2, 1) := by decide +kernel
theorem dX6_tryStep_66 : decode cX6_tryStep 66 = .ok (.iaload, 1) := by decide +kernel
theorem dX6_tryStep_67 : decode cX6_tryStep 67 = .ok (.invokevirtual 76, 3) := by decide +kernel
theorem dX6_tryStep_70 : decode cX6_tryStep 70 = .ok (.return_, 1) := by decide +kernel
theorem dX7_init_0 : decode cX7_init 0 = .ok (.aload_n 0, 1) := by decide +kernel
theorem dX7_init_1 : decode cX7_init 1 = .ok (.invokespecial 3, 3) := by decide +kernel
theorem dX7_init_4 : decode cX7_init 4 = .ok (.aload_n 0, 1) := by decide +kernel
theorem dX7_init_5 : decode cX7_init 5 = .ok (.bipush 60, 2) := by decide +kernel
theorem dX7_init_7 : decode cX7_init 7 = .ok (.newarray .long, 2) := by decide +kernel
theorem dX7_init_9 : decode cX7_init 9 = .ok (.putfield 9, 3) := by decide +kernel
theorem dX7_init_12 : decode cX7_init 12 = .ok (.aload_n 0, 1) := by decide +kernel
theorem dX7_init_13 : decode cX7_init 13 = .ok (.iconst (-1), 1) := by decide +kernel
theorem dX7_init_14 : decode cX7_init 14 = .ok (.putfield 15, 3) := by decide +kernel
theorem dX7_init_17 : decode cX7_init 17 = .ok (.aload_n 0, 1) := by decide +kernel
theorem dX7_init_18 : decode cX7_init 18 = .ok (.iconst 0, 1) := by decide +kernel
theorem dX7_init_19 : decode cX7_init 19 = .ok (.putfield 19, 3) := by decide +kernel
theorem dX7_init_22 : decode cX7_init 22 = .ok (.return_, 1) := by decide +kernel
theorem dX7_isNothing_0 : decode cX7_isNothing 0 = .ok (.aload_n 0, 1) := by decide +kernel
theorem dX7_isNothing_1 : decode cX7_isNothing 1 = .ok (.getfield 15, 3) := by decide +kernel
theorem dX7_isNothing_4 : decode cX7_isNothing 4 = .ok (.iconst (-1), 1) := by decide +kernel
theorem dX7_isNothing_5 : decode cX7_isNothing 5 = .ok (.if_icmp .ne 7, 3) := by decide +kernel
theorem dX7_isNothing_8 : decode cX7_isNothing 8 = .ok (.iconst 1, 1) := by decide +kernel
theorem dX7_isNothing_9 : decode cX7_isNothing 9 = .ok (.goto 4, 3) := by decide +kernel
theorem dX7_isNothing_12 : decode cX7_isNothing 12 = .ok (.iconst 0, 1) := by decide +kernel
theorem dX7_isNothing_13 : decode cX7_isNothing 13 = .ok (.ireturn, 1) := by decide +kernel
theorem dX7_hasItem_0 : decode cX7_hasItem 0 = .ok (.iload_n 1, 1) := by decide +kernel
theorem dX7_hasItem_1 : decode cX7_hasItem 1 = .ok (.ifCond .lt 15, 3) := by decide +kernel
theorem dX7_hasItem_4 : decode cX7_hasItem 4 = .ok (.iload_n 1, 1) := by decide +kernel
theorem dX7_hasItem_5 : decode cX7_hasItem 5 = .ok (.aload_n 0, 1) := by decide +kernel
theorem dX7_hasItem_6 : decode cX7_hasItem 6 = .ok (.getfield 19, 3) := by decide +kernel
theorem dX7_hasItem_9 : decode cX7_hasItem 9 = .ok (.if_icmp .ge 7, 3) := by decide +kernel
theorem dX7_hasItem_12 : decode cX7_hasItem 12 = .ok (.iconst 1, 1) := by decide +kernel
theorem dX7_hasItem_13 : decode cX7_hasItem 13 = .ok (.goto 4, 3) := by decide +kernel
theorem dX7_hasItem_16 : decode cX7_hasItem 16 = .ok (.iconst 0, 1) := by decide +kernel
theorem dX7_hasItem_17 : decode cX7_hasItem 17 = .ok (.ireturn, 1) := by decide +kernel
theorem dX7_hasStretch_0 : decode cX7_hasStretch 0 = .ok (.iload_n 2, 1) := by decide +kernel
theorem dX7_hasStretch_1 : decode cX7_hasStretch 1 = .ok (.ifCond .lt 21, 3) := by decide +kernel
theorem dX7_hasStretch_4 : decode cX7_hasStretch 4 = .ok (.iload_n 1, 1) := by decide +kernel
theorem dX7_hasStretch_5 : decode cX7_hasStretch 5 = .ok (.ifCond .lt 17, 3) := by decide +kernel
theorem dX7_hasStretch_8 : decode cX7_hasStretch 8 = .ok (.iload_n 1, 1) := by decide +kernel
theorem dX7_hasStretch_9 : decode cX7_hasStretch 9 = .ok (.aload_n 0, 1) := by decide +kernel
theorem dX7_hasStretch_10 : decode cX7_hasStretch 10 = .ok (.getfield 19, 3) := by decide +kernel
theorem dX7_hasStretch_13 : decode cX7_hasStretch 13 = .ok (.iload_n 2, 1) := by decide +kernel
theorem dX7_hasStretch_14 : decode cX7_hasStretch 14 = .ok (.isub, 1) := by decide +kernel
theorem dX7_hasStretch_15 : decode cX7_hasStretch 15 = .ok (.if_icmp .gt 7, 3) := by decide +kernel
theorem dX7_hasStretch_18 : decode cX7_hasStretch 18 = .ok (.iconst 1, 1) := by decide +kernel
theorem dX7_hasStretch_19 : decode cX7_hasStretch 19 = .ok (.goto 4, 3) := by decide +kernel
theorem dX7_hasStretch_22 : decode cX7_hasStretch 22 = .ok (.iconst 0, 1) := by decide +kernel
theorem dX7_hasStretch_23 : decode cX7_hasStretch 23 = .ok (.ireturn, 1) := by decide +kernel
theorem dX7_become_0 : decode cX7_become 0 = .ok (.aload_n 0, 1) := by decide +kernel
theorem dX7_become_1 : decode cX7_become 1 = .ok (.getfield 9, 3) := by decide +kernel
theorem dX7_become_4 : decode cX7_become 4 = .ok (.lconst 0, 1) := by decide +kernel
theorem dX7_become_5 : decode cX7_become 5 = .ok (.invokestatic 22, 3) := by decide +kernel
theorem dX7_become_8 : decode cX7_become 8 = .ok (.aload_n 0, 1) := by decide +kernel
theorem dX7_become_9 : decode cX7_become 9 = .ok (.iload_n 1, 1) := by decide +kernel
theorem dX7_become_10 : decode cX7_become 10 = .ok (.putfield 15, 3) := by decide +kernel
theorem dX7_become_13 : decode cX7_become 13 = .ok (.aload_n 0, 1) := by decide +kernel
theorem dX7_become_14 : decode cX7_become 14 = .ok (.iload_n 2, 1) := by decide +kernel
theorem dX7_become_15 : decode cX7_become 15 = .ok (.putfield 19, 3) := by decide +kernel
theorem dX7_become_18 : decode cX7_become 18 = .ok (.return_, 1) := by decide +kernel
theorem dX7_put_0 : decode cX7_put 0 = .ok (.aload_n 0, 1) := by decide +kernel
theorem dX7_put_1 : decode cX7_put 1 = .ok (.getfield 15, 3) := by decide +kernel
theorem dX7_put_4 : decode cX7_put 4 = .ok (.tableswitch 94 0 4 #[36, 49, 62, 94, 74], 36) := by decide +kernel
theorem dX7_put_40 : decode cX7_put 40 = .ok (.aload_n 0, 1) := by decide +kernel
theorem dX7_put_41 : decode cX7_put 41 = .ok (.getfield 9, 3) := by decide +kernel
theorem dX7_put_44 : decode cX7_put 44 = .ok (.iload_n 1, 1) := by decide +kernel
theorem dX7_put_45 : decode cX7_put 45 = .ok (.lload_n 2, 1) := by decide +kernel
theorem dX7_put_46 : decode cX7_put 46 = .ok (.l2i, 1) := by decide +kernel
theorem dX7_put_47 : decode cX7_put 47 = .ok (.i2b, 1) := by decide +kernel
theorem dX7_put_48 : decode cX7_put 48 = .ok (.i2l, 1) := by decide +kernel
theorem dX7_put_49 : decode cX7_put 49 = .ok (.lastore, 1) := by decide +kernel
theorem dX7_put_50 : decode cX7_put 50 = .ok (.goto 55, 3) := by decide +kernel
theorem dX7_put_53 : decode cX7_put 53 = .ok (.aload_n 0, 1) := by decide +kernel
theorem dX7_put_54 : decode cX7_put 54 = .ok (.getfield 9, 3) := by decide +kernel
theorem dX7_put_57 : decode cX7_put 57 = .ok (.iload_n 1, 1) := by decide +kernel
theorem dX7_put_58 : decode cX7_put 58 = .ok (.lload_n 2, 1) := by decide +kernel
theorem dX7_put_59 : decode cX7_put 59 = .ok (.l2i, 1) := by decide +kernel
theorem dX7_put_60 : decode cX7_put 60 = .ok (.i2s, 1) := by decide +kernel
theorem dX7_put_61 : decode cX7_put 61 = .ok (.i2l, 1) := by decide +kernel
theorem dX7_put_62 : decode cX7_put 62 = .ok (.lastore, 1) := by decide +kernel
theorem dX7_put_63 : decode cX7_put 63 = .ok (.goto 42, 3) := by decide +kernel
theorem dX7_put_66 : decode cX7_put 66 = .ok (.aload_n 0, 1) := by decide +kernel
theorem dX7_put_67 : decode cX7_put 67 = .ok (.getfield 9, 3) := by decide +kernel
theorem dX7_put_70 : decode cX7_put 70 = .ok (.iload_n 1, 1) := by decide +kernel
theorem dX7_put_71 : decode cX7_put 71 = .ok (.lload_n 2, 1) := by decide +kernel
theorem dX7_put_72 : decode cX7_put 72 = .ok (.l2i, 1) := by decide +kernel
theorem dX7_put_73 : decode cX7_put 73 = .ok (.i2l, 1) := by decide +kernel
theorem dX7_put_74 : decode cX7_put 74 = .ok (.lastore, 1) := by decide +kernel
theorem dX7_put_75 : decode cX7_put 75 = .ok (.goto 30, 3) := by decide +kernel
theorem dX7_put_78 : decode cX7_put 78 = .ok (.aload_n 0, 1) := by decide +kernel
theorem dX7_put_79 : decode cX7_put 79 = .ok (.getfield 9, 3) := by decide +kernel
theorem dX7_put_82 : decode cX7_put 82 = .ok (.iload_n 1, 1) := by decide +kernel
theorem dX7_put_83 : decode cX7_put 83 = .ok (.lload_n 2, 1) := by decide +kernel
theorem dX7_put_84 : decode cX7_put 84 = .ok (.lconst 0, 1) := by decide +kernel
theorem dX7_put_85 : decode cX7_put 85 = .ok (.lcmp, 1) := by decide +kernel
theorem dX7_put_86 : decode cX7_put 86 = .ok (.ifCond .eq 7, 3) := by decide +kernel
theorem dX7_put_89 : decode cX7_put 89 = .ok (.lconst 1, 1) := by decide +kernel
theorem dX7_put_90 : decode cX7_put 90 = .ok (.goto 4, 3) := by decide +kernel
theorem dX7_put_93 : decode cX7_put 93 = .ok (.lconst 0, 1) := by decide +kernel
theorem dX7_put_94 : decode cX7_put 94 = .ok (.lastore, 1) := by decide +kernel
theorem dX7_put_95 : decode cX7_put 95 = .ok (.goto 10, 3) := by decide +kernel
theorem dX7_put_98 : decode cX7_put 98 = .ok (.aload_n 0, 1) := by decide +kernel
theorem dX7_put_99 : decode cX7_put 99 = .ok (.getfield 9, 3) := by decide +kernel
theorem dX7_put_102 : decode cX7_put 102 = .ok (.iload_n 1, 1) := by decide +kernel
theorem dX7_put_103 : decode cX7_put 103 = .ok (.lload_n 2, 1) := by decide +kernel
theorem dX7_put_104 : decode cX7_put 104 = .ok (.lastore, 1) := by decide +kernel
theorem dX7_put_105 : decode cX7_put 105 = .ok (.return_, 1) := by decide +kernel
theorem dX8_init_0 : decode cX8_init 0 = .ok (.aload_n 0, 1) := by decide +kernel
theorem dX8_init_1 : decode cX8_init 1 = .ok (.invokespecial 3, 3) := by decide +kernel
theorem dX8_init_4 : decode cX8_init 4 = .ok (.aload_n 0, 1) := by decide +kernel
theorem dX8_init_5 : decode cX8_init 5 = .ok (.bipush 15, 2) := by decide +kernel
theorem dX8_init_7 : decode cX8_init 7 = .ok (.anewarray 9, 3) := by decide +kernel
theorem dX8_init_10 : decode cX8_init 10 = .ok (.putfield 11, 3) := by decide +kernel
theorem dX8_init_13 : decode cX8_init 13 = .ok (.aload_n 0, 1) := by decide +kernel
theorem dX8_init_14 : decode cX8_init 14 = .ok (.bipush 15, 2) := by decide +kernel
theorem dX8_init_16 : decode cX8_init 16 = .ok (.newarray .int, 2) := by decide +kernel
theorem dX8_init_18 : decode cX8_init 18 = .ok (.putfield 17, 3) := by decide +kernel
theorem dX8_init_21 : decode cX8_init 21 = .ok (.aload_n 0, 1) := by decide +kernel
theorem dX8_init_22 : decode cX8_init 22 = .ok (.bipush 15, 2) := by decide +kernel
theorem dX8_init_24 : decode cX8_init 24 = .ok (.newarray .int, 2) := by decide +kernel
theorem dX8_init_26 : decode cX8_init 26 = .ok (.putfield 21, 3) := by decide +kernel
theorem dX8_init_29 : decode cX8_init 29 = .ok (.aload_n 0, 1) := by decide +kernel
theorem dX8_init_30 : decode cX8_init 30 = .ok (.iconst 0, 1) := by decide +kernel
theorem dX8_init_31 : decode cX8_init 31 = .ok (.putfield 24, 3) := by decide +kernel
theorem dX8_init_34 : decode cX8_init 34 = .ok (.iconst 0, 1) := by decide +kernel
theorem dX8_init_35 : decode cX8_init 35 = .ok (.istore_n 1, 1) := by decide +kernel
theorem dX8_init_36 : decode cX8_init 36 = .ok (.iload_n 1, 1) := by decide +kernel
theorem dX8_init_37 : decode cX8_init 37 = .ok (.bipush 15, 2) := by decide +kernel
theorem dX8_init_39 : decode cX8_init 39 = .ok (.if_icmp .ge 22, 3) := by decide +kernel
theorem dX8_init_42 : decode cX8_init 42 = .ok (.aload_n 0, 1) := by decide +kernel
theorem dX8_init_43 : decode cX8_init 43 = .ok (.getfield 11, 3) := by decide +kernel
theorem dX8_init_46 : decode cX8_init 46 = .ok (.iload_n 1, 1) := by decide +kernel
theorem dX8_init_47 : decode cX8_init 47 = .ok (.new 9, 3) := by decide +kernel
theorem dX8_init_50 : decode cX8_init 50 = .ok (.dup, 1) := by decide +kernel
theorem dX8_init_51 : decode cX8_init 51 = .ok (.invokespecial 28, 3) := by decide +kernel
theorem dX8_init_54 : decode cX8_init 54 = .ok (.aastore, 1) := by decide +kernel
theorem dX8_init_55 : decode cX8_init 55 = .ok (.iinc 1 1, 3) := by decide +kernel
theorem dX8_init_58 : decode cX8_init 58 = .ok (.goto (-22), 3) := by decide +kernel
theorem dX8_init_61 : decode cX8_init 61 = .ok (.return_, 1) := by decide +kernel
theorem dX8_result_0 : decode cX8_result 0 = .ok (.aload_n 0, 1) := by decide +kernel
theorem dX8_result_1 : decode cX8_result 1 = .ok (.getfield 11, 3) := by decide +kernel
theorem dX8_result_4 : decode cX8_result 4 = .ok (.iconst 0, 1) := by decide +kernel
theorem dX8_result_5 : decode cX8_result 5 = .ok (.aaload, 1) := by decide +kernel
theorem dX8_result_6 : decode cX8_result 6 = .ok (.areturn, 1) := by decide +kernel
theorem dX8_cost_0 : decode cX8_cost 0 = .ok (.aload_n 0, 1) := by decide +kernel
theorem dX8_cost_1 : decode cX8_cost 1 = .ok (.getfield 17, 3) := by decide +kernel
theorem dX8_cost_4 : decode cX8_cost 4 = .ok (.iconst 0, 1) := by decide +kernel
theorem dX8_cost_5 : decode cX8_cost 5 = .ok (.iaload, 1) := by decide +kernel
theorem dX8_cost_6 : decode cX8_cost 6 = .ok (.ireturn, 1) := by decide +kernel
theorem dX8_depth_0 : decode cX8_depth 0 = .ok (.aload_n 0, 1) := by decide +kernel
theorem dX8_depth_1 : decode cX8_depth 1 = .ok (.getfield 21, 3) := by decide +kernel
theorem dX8_depth_4 : decode cX8_depth 4 = .ok (.iconst 0, 1) := by decide +kernel
theorem dX8_depth_5 : decode cX8_depth 5 = .ok (.iaload, 1) := by decide +kernel
theorem dX8_depth_6 : decode cX8_depth 6 = .ok (.ireturn, 1) := by decide +kernel
theorem dX8_goThrough_0 : decode cX8_goThrough 0 = .ok (.aload_n 0, 1) := by decide +kernel
theorem dX8_goThrough_1 : decode cX8_goThrough 1 = .ok (.iconst 0, 1) := by decide +kernel
theorem dX8_goThrough_2 : decode cX8_goThrough 2 = .ok (.putfield 24, 3) := by decide +kernel
theorem dX8_goThrough_5 : decode cX8_goThrough 5 = .ok (.iconst 0, 1) := by decide +kernel
theorem dX8_goThrough_6 : decode cX8_goThrough 6 = .ok (.istore_n 3, 1) := by decide +kernel
theorem dX8_goThrough_7 : decode cX8_goThrough 7 = .ok (.iload_n 3, 1) := by decide +kernel
theorem dX8_goThrough_8 : decode cX8_goThrough 8 = .ok (.aload_n 1, 1) := by decide +kernel
theorem dX8_goThrough_9 : decode cX8_goThrough 9 = .ok (.getfield 29, 3) := by decide +kernel
theorem dX8_goThrough_12 : decode cX8_goThrough 12 = .ok (.if_icmp .ge 61, 3) := by decide +kernel
theorem dX8_goThrough_15 : decode cX8_goThrough 15 = .ok (.aload_n 1, 1) := by decide +kernel
theorem dX8_goThrough_16 : decode cX8_goThrough 16 = .ok (.getfield 34, 3) := by decide +kernel
theorem dX8_goThrough_19 : decode cX8_goThrough 19 = .ok (.iload_n 3, 1) := by decide +kernel
theorem dX8_goThrough_20 : decode cX8_goThrough 20 = .ok (.baload, 1) := by decide +kernel
theorem dX8_goThrough_21 : decode cX8_goThrough 21 = .ok (.istore 4, 2) := by decide +kernel
theorem dX8_goThrough_23 : decode cX8_goThrough 23 = .ok (.iload 4, 2) := by decide +kernel
theorem dX8_goThrough_25 : decode cX8_goThrough 25 = .ok (.iconst 4, 1) := by decide +kernel
theorem dX8_goThrough_26 : decode cX8_goThrough 26 = .ok (.if_icmp .ne 11, 3) := by decide +kernel
theorem dX8_goThrough_29 : decode cX8_goThrough 29 = .ok (.aload_n 0, 1) := by decide +kernel
theorem dX8_goThrough_30 : decode cX8_goThrough 30 = .ok (.aload_n 2, 1) := by decide +kernel
theorem dX8_goThrough_31 : decode cX8_goThrough 31 = .ok (.invokevirtual 38, 3) := by decide +kernel
theorem dX8_goThrough_34 : decode cX8_goThrough 34 = .ok (.goto 33, 3) := by decide +kernel
theorem dX8_goThrough_37 : decode cX8_goThrough 37 = .ok (.iload 4, 2) := by decide +kernel
theorem dX8_goThrough_39 : decode cX8_goThrough 39 = .ok (.iconst 5, 1) := by decide +kernel
theorem dX8_goThrough_40 : decode cX8_goThrough 40 = .ok (.if_icmp .eq 10, 3) := by decide +kernel
theorem dX8_goThrough_43 : decode cX8_goThrough 43 = .ok (.iload 4, 2) := by decide +kernel
theorem dX8_goThrough_45 : decode cX8_goThrough 45 = .ok (.bipush 6, 2) := by decide +kernel
theorem dX8_goThrough_47 : decode cX8_goThrough 47 = .ok (.if_icmp .ne 13, 3) := by decide +kernel
theorem dX8_goThrough_50 : decode cX8_goThrough 50 = .ok (.aload_n 0, 1) := by decide +kernel
theorem dX8_goThrough_51 : decode cX8_goThrough 51 = .ok (.iload 4, 2) := by decide +kernel
theorem dX8_goThrough_53 : decode cX8_goThrough 53 = .ok (.aload_n 2, 1) := by decide +kernel
theorem dX8_goThrough_54 : decode cX8_goThrough 54 = .ok (.invokevirtual 42, 3) := by decide +kernel
theorem dX8_goThrough_57 : decode cX8_goThrough 57 = .ok (.goto 10, 3) := by decide +kernel
theorem dX8_goThrough_60 : decode cX8_goThrough 60 = .ok (.aload_n 0, 1) := by decide +kernel
theorem dX8_goThrough_61 : decode cX8_goThrough 61 = .ok (.aload_n 1, 1) := by decide +kernel
theorem dX8_goThrough_62 : decode cX8_goThrough 62 = .ok (.iload_n 3, 1) := by decide +kernel
theorem dX8_goThrough_63 : decode cX8_goThrough 63 = .ok (.aload_n 2, 1) := by decide +kernel
theorem dX8_goThrough_64 : decode cX8_goThrough 64 = .ok (.invokevirtual 46, 3) := by decide +kernel
theorem dX8_goThrough_67 : decode cX8_goThrough 67 = .ok (.iinc 3 1, 3) := by decide +kernel
theorem dX8_goThrough_70 : decode cX8_goThrough 70 = .ok (.goto (-63), 3) := by decide +kernel
theorem dX8_goThrough_73 : decode cX8_goThrough 73 = .ok (.return_, 1) := by decide +kernel
theorem dX8_turn_0 : decode cX8_turn 0 = .ok (.aload_n 0, 1) := by decide +kernel
theorem dX8_turn_1 : decode cX8_turn 1 = .ok (.getfield 24, 3) := by decide +kernel
theorem dX8_turn_4 : decode cX8_turn 4 = .ok (.iconst 1, 1) := by decide +kernel
theorem dX8_turn_5 : decode cX8_turn 5 = .ok (.if_icmp .ge 4, 3) := by decide +kernel
theorem dX8_turn_8 : decode cX8_turn 8 = .ok (.return_, 1) := by decide +kernel
theorem dX8_turn_9 : decode cX8_turn 9 = .ok (.aload_n 0, 1) := by decide +kernel
theorem dX8_turn_10 : decode cX8_turn 10 = .ok (.getfield 11, 3) := by decide +kernel
theorem dX8_turn_13 : decode cX8_turn 13 = .ok (.aload_n 0, 1) := by decide +kernel
theorem dX8_turn_14 : decode cX8_turn 14 = .ok (.getfield 24, 3) := by decide +kernel
theorem dX8_turn_17 : decode cX8_turn 17 = .ok (.iconst 1, 1) := by decide +kernel
theorem dX8_turn_18 : decode cX8_turn 18 = .ok (.isub, 1) := by decide +kernel
theorem dX8_turn_19 : decode cX8_turn 19 = .ok (.aaload, 1) := by decide +kernel
theorem dX8_turn_20 : decode cX8_turn 20 = .ok (.aload_n 1, 1) := by decide +kernel
theorem dX8_turn_21 : decode cX8_turn 21 = .ok (.getfield 50, 3) := by decide +kernel
theorem dX8_turn_24 : decode cX8_turn 24 = .ok (.invokevirtual 53, 3) := by decide +kernel
theorem dX8_turn_27 : decode cX8_turn 27 = .ok (.aload_n 0, 1) := by decide +kernel
theorem dX8_turn_28 : decode cX8_turn 28 = .ok (.getfield 21, 3) := by decide +kernel
theorem dX8_turn_31 : decode cX8_turn 31 = .ok (.aload_n 0, 1) := by decide +kernel
theorem dX8_turn_32 : decode cX8_turn 32 = .ok (.getfield 24, 3) := by decide +kernel
theorem dX8_turn_35 : decode cX8_turn 35 = .ok (.iconst 1, 1) := by decide +kernel
theorem dX8_turn_36 : decode cX8_turn 36 = .ok (.isub, 1) := by decide +kernel
theorem dX8_turn_37 : decode cX8_turn 37 = .ok (.dup2, 1) := by decide +kernel
theorem dX8_turn_38 : decode cX8_turn 38 = .ok (.iaload, 1) := by decide +kernel
theorem dX8_turn_39 : decode cX8_turn 39 = .ok (.iconst 1, 1) := by decide +kernel
theorem dX8_turn_40 : decode cX8_turn 40 = .ok (.iadd, 1) := by decide +kernel
theorem dX8_turn_41 : decode cX8_turn 41 = .ok (.iastore, 1) := by decide +kernel
theorem dX8_turn_42 : decode cX8_turn 42 = .ok (.return_, 1) := by decide +kernel
theorem dX8_join_0 : decode cX8_join 0 = .ok (.aload_n 0, 1) := by decide +kernel
theorem dX8_join_1 : decode cX8_join 1 = .ok (.getfield 24, 3) := by decide +kernel
theorem dX8_join_4 : decode cX8_join 4 = .ok (.iconst 2, 1) := by decide +kernel
theorem dX8_join_5 : decode cX8_join 5 = .ok (.if_icmp .ge 4, 3) := by decide +kernel
theorem dX8_join_8 : decode cX8_join 8 = .ok (.return_, 1) := by decide +kernel
theorem dX8_join_9 : decode cX8_join 9 = .ok (.aload_n 0, 1) := by decide +kernel
theorem dX8_join_10 : decode cX8_join 10 = .ok (.getfield 24, 3) := by decide +kernel
theorem dX8_join_13 : decode cX8_join 13 = .ok (.iconst 2, 1) := by decide +kernel
theorem dX8_join_14 : decode cX8_join 14 = .ok (.isub, 1) := by decide +kernel
theorem dX8_join_15 : decode cX8_join 15 = .ok (.istore_n 3, 1) := by decide +kernel
theorem dX8_join_16 : decode cX8_join 16 = .ok (.aload_n 0, 1) := by decide +kernel
theorem dX8_join_17 : decode cX8_join 17 = .ok (.getfield 24, 3) := by decide +kernel
theorem dX8_join_20 : decode cX8_join 20 = .ok (.iconst 1, 1) := by decide +kernel
theorem dX8_join_21 : decode cX8_join 21 = .ok (.isub, 1) := by decide +kernel
theorem dX8_join_22 : decode cX8_join 22 = .ok (.istore 4, 2) := by decide +kernel
theorem dX8_join_24 : decode cX8_join 24 = .ok (.aload_n 0, 1) := by decide +kernel
theorem dX8_join_25 : decode cX8_join 25 = .ok (.getfield 17, 3) := by decide +kernel
theorem dX8_join_28 : decode cX8_join 28 = .ok (.iload_n 3, 1) := by decide +kernel
theorem dX8_join_29 : decode cX8_join 29 = .ok (.dup2, 1) := by decide +kernel
theorem dX8_join_30 : decode cX8_join 30 = .ok (.iaload, 1) := by decide +kernel
theorem dX8_join_31 : decode cX8_join 31 = .ok (.aload_n 0, 1) := by decide +kernel
theorem dX8_join_32 : decode cX8_join 32 = .ok (.getfield 17, 3) := by decide +kernel
theorem dX8_join_35 : decode cX8_join 35 = .ok (.iload 4, 2) := by decide +kernel
theorem dX8_join_37 : decode cX8_join 37 = .ok (.iaload, 1) := by decide +kernel
theorem dX8_join_38 : decode cX8_join 38 = .ok (.aload_n 0, 1) := by decide +kernel
theorem dX8_join_39 : decode cX8_join 39 = .ok (.getfield 11, 3) := by decide +kernel
theorem dX8_join_42 : decode cX8_join 42 = .ok (.iload_n 3, 1) := by decide +kernel
theorem dX8_join_43 : decode cX8_join 43 = .ok (.aaload, 1) := by decide +kernel
theorem dX8_join_44 : decode cX8_join 44 = .ok (.aload_n 2, 1) := by decide +kernel
theorem dX8_join_45 : decode cX8_join 45 = .ok (.getfield 50, 3) := by decide +kernel
theorem dX8_join_48 : decode cX8_join 48 = .ok (.invokevirtual 56, 3) := by decide +kernel
theorem dX8_join_51 : decode cX8_join 51 = .ok (.iadd, 1) := by decide +kernel
theorem dX8_join_52 : decode cX8_join 52 = .ok (.aload_n 0, 1) := by decide +kernel
theorem dX8_join_53 : decode cX8_join 53 = .ok (.getfield 11, 3) := by decide +kernel
theorem dX8_join_56 : decode cX8_join 56 = .ok (.iload 4, 2) := by decide +kernel
theorem dX8_join_58 : decode cX8_join 58 = .ok (.aaload, 1) := by decide +kernel
theorem dX8_join_59 : decode cX8_join 59 = .ok (.aload_n 2, 1) := by decide +kernel
theorem dX8_join_60 : decode cX8_join 60 = .ok (.getfield 50, 3) := by decide +kernel
theorem dX8_join_63 : decode cX8_join 63 = .ok (.invokevirtual 56, 3) := by decide +kernel
theorem dX8_join_66 : decode cX8_join 66 = .ok (.iadd, 1) := by decide +kernel
theorem dX8_join_67 : decode cX8_join 67 = .ok (.iadd, 1) := by decide +kernel
theorem dX8_join_68 : decode cX8_join 68 = .ok (.iastore, 1) := by decide +kernel
theorem dX8_join_69 : decode cX8_join 69 = .ok (.aload_n 0, 1) := by decide +kernel
theorem dX8_join_70 : decode cX8_join 70 = .ok (.getfield 21, 3) := by decide +kernel
theorem dX8_join_73 : decode cX8_join 73 = .ok (.iload_n 3, 1) := by decide +kernel
theorem dX8_join_74 : decode cX8_join 74 = .ok (.aload_n 0, 1) := by decide +kernel
theorem dX8_join_75 : decode cX8_join 75 = .ok (.getfield 21, 3) := by decide +kernel
theorem dX8_join_78 : decode cX8_join 78 = .ok (.iload_n 3, 1) := by decide +kernel
theorem dX8_join_79 : decode cX8_join 79 = .ok (.iaload, 1) := by decide +kernel
theorem dX8_join_80 : decode cX8_join 80 = .ok (.aload_n 0, 1) := by decide +kernel
theorem dX8_join_81 : decode cX8_join 81 = .ok (.getfield 21, 3) := by decide +kernel
theorem dX8_join_84 : decode cX8_join 84 = .ok (.iload 4, 2) := by decide +kernel
theorem dX8_join_86 : decode cX8_join 86 = .ok (.iaload, 1) := by decide +kernel
theorem dX8_join_87 : decode cX8_join 87 = .ok (.invokestatic 60, 3) := by decide +kernel
theorem dX8_join_90 : decode cX8_join 90 = .ok (.iconst 1, 1) := by decide +kernel
theorem dX8_join_91 : decode cX8_join 91 = .ok (.iadd, 1) := by decide +kernel
theorem dX8_join_92 : decode cX8_join 92 = .ok (.iastore, 1) := by decide +kernel
theorem dX8_join_93 : decode cX8_join 93 = .ok (.iload_n 1, 1) := by decide +kernel
theorem dX8_join_94 : decode cX8_join 94 = .ok (.iconst 5, 1) := by decide +kernel
theorem dX8_join_95 : decode cX8_join 95 = .ok (.if_icmp .ne 22, 3) := by decide +kernel
theorem dX8_join_98 : decode cX8_join 98 = .ok (.aload_n 0, 1) := by decide +kernel
theorem dX8_join_99 : decode cX8_join 99 = .ok (.getfield 11, 3) := by decide +kernel
theorem dX8_join_102 : decode cX8_join 102 = .ok (.iload_n 3, 1) := by decide +kernel
theorem dX8_join_103 : decode cX8_join 103 = .ok (.aaload, 1) := by decide +kernel
theorem dX8_join_104 : decode cX8_join 104 = .ok (.aload_n 0, 1) := by decide +kernel
theorem dX8_join_105 : decode cX8_join 105 = .ok (.getfield 11, 3) := by decide +kernel
theorem dX8_join_108 : decode cX8_join 108 = .ok (.iload 4, 2) := by decide +kernel
theorem dX8_join_110 : decode cX8_join 110 = .ok (.aaload, 1) := by decide +kernel
theorem dX8_join_111 : decode cX8_join 111 = .ok (.invokevirtual 66, 3) := by decide +kernel
theorem dX8_join_114 : decode cX8_join 114 = .ok (.goto 19, 3) := by decide +kernel
theorem dX8_join_117 : decode cX8_join 117 = .ok (.aload_n 0, 1) := by decide +kernel
theorem dX8_join_118 : decode cX8_join 118 = .ok (.getfield 11, 3) := by decide +kernel
theorem dX8_join_121 : decode cX8_join 121 = .ok (.iload_n 3, 1) := by decide +kernel
theorem dX8_join_122 : decode cX8_join 122 = .ok (.aaload, 1) := by decide +kernel
theorem dX8_join_123 : decode cX8_join 123 = .ok (.aload_n 0, 1) := by decide +kernel
theorem dX8_join_124 : decode cX8_join 124 = .ok (.getfield 11, 3) := by decide +kernel
theorem dX8_join_127 : decode cX8_join 127 = .ok (.iload 4, 2) := by decide +kernel
theorem dX8_join_129 : decode cX8_join 129 = .ok (.aaload, 1) := by decide +kernel
theorem dX8_join_130 : decode cX8_join 130 = .ok (.invokevirtual 70, 3) := by decide +kernel
theorem dX8_join_133 : decode cX8_join 133 = .ok (.aload_n 0, 1) := by decide +kernel
theorem dX8_join_134 : decode cX8_join 134 = .ok (.dup, 1) := by decide +kernel
theorem dX8_join_135 : decode cX8_join 135 = .ok (.getfield 24, 3) := by decide +kernel
theorem dX8_join_138 : decode cX8_join 138 = .ok (.iconst 1, 1) := by decide +kernel
theorem dX8_join_139 : decode cX8_join 139 = .ok (.isub, 1) := by decide +kernel
theorem dX8_join_140 : decode cX8_join 140 = .ok (.putfield 24, 3) := by decide +kernel
theorem dX8_join_143 : decode cX8_join 143 = .ok (.return_, 1) := by decide +kernel
theorem dX8_ask_0 : decode cX8_ask 0 = .ok (.aload_n 0, 1) := by decide +kernel
theorem dX8_ask_1 : decode cX8_ask 1 = .ok (.getfield 24, 3) := by decide +kernel
theorem dX8_ask_4 : decode cX8_ask 4 = .ok (.bipush 15, 2) := by decide +kernel
theorem dX8_ask_6 : decode cX8_ask 6 = .ok (.if_icmp .lt 4, 3) := by decide +kernel
theorem dX8_ask_9 : decode cX8_ask 9 = .ok (.return_, 1) := by decide +kernel
theorem dX8_ask_10 : decode cX8_ask 10 = .ok (.aload_n 1, 1) := by decide +kernel
theorem dX8_ask_11 : decode cX8_ask 11 = .ok (.getfield 73, 3) := by decide +kernel
theorem dX8_ask_14 : decode cX8_ask 14 = .ok (.iload_n 2, 1) := by decide +kernel
theorem dX8_ask_15 : decode cX8_ask 15 = .ok (.baload, 1) := by decide +kernel
theorem dX8_ask_16 : decode cX8_ask 16 = .ok (.istore 4, 2) := by decide +kernel
theorem dX8_ask_18 : decode cX8_ask 18 = .ok (.aload_n 0, 1) := by decide +kernel
theorem dX8_ask_19 : decode cX8_ask 19 = .ok (.getfield 11, 3) := by decide +kernel
theorem dX8_ask_22 : decode cX8_ask 22 = .ok (.aload_n 0, 1) := by decide +kernel
theorem dX8_ask_23 : decode cX8_ask 23 = .ok (.getfield 24, 3) := by decide +kernel
theorem dX8_ask_26 : decode cX8_ask 26 = .ok (.aaload, 1) := by decide +kernel
theorem dX8_ask_27 : decode cX8_ask 27 = .ok (.astore 5, 2) := by decide +kernel
theorem dX8_ask_29 : decode cX8_ask 29 = .ok (.aload_n 0, 1) := by decide +kernel
theorem dX8_ask_30 : decode cX8_ask 30 = .ok (.getfield 17, 3) := by decide +kernel
theorem dX8_ask_33 : decode cX8_ask 33 = .ok (.aload_n 0, 1) := by decide +kernel
theorem dX8_ask_34 : decode cX8_ask 34 = .ok (.getfield 24, 3) := by decide +kernel
theorem dX8_ask_37 : decode cX8_ask 37 = .ok (.iconst 0, 1) := by decide +kernel
theorem dX8_ask_38 : decode cX8_ask 38 = .ok (.iastore, 1) := by decide +kernel
theorem dX8_ask_39 : decode cX8_ask 39 = .ok (.aload_n 0, 1) := by decide +kernel
theorem dX8_ask_40 : decode cX8_ask 40 = .ok (.getfield 21, 3) := by decide +kernel
theorem dX8_ask_43 : decode cX8_ask 43 = .ok (.aload_n 0, 1) := by decide +kernel
theorem dX8_ask_44 : decode cX8_ask 44 = .ok (.getfield 24, 3) := by decide +kernel
theorem dX8_ask_47 : decode cX8_ask 47 = .ok (.iconst 1, 1) := by decide +kernel
theorem dX8_ask_48 : decode cX8_ask 48 = .ok (.iastore, 1) := by decide +kernel
theorem dX8_ask_49 : decode cX8_ask 49 = .ok (.aload_n 0, 1) := by decide +kernel
theorem dX8_ask_50 : decode cX8_ask 50 = .ok (.dup, 1) := by decide +kernel
theorem dX8_ask_51 : decode cX8_ask 51 = .ok (.getfield 24, 3) := by decide +kernel
theorem dX8_ask_54 : decode cX8_ask 54 = .ok (.iconst 1, 1) := by decide +kernel
theorem dX8_ask_55 : decode cX8_ask 55 = .ok (.iadd, 1) := by decide +kernel
theorem dX8_ask_56 : decode cX8_ask 56 = .ok (.putfield 24, 3) := by decide +kernel
theorem dX8_ask_59 : decode cX8_ask 59 = .ok (.aload_n 1, 1) := by decide +kernel
theorem dX8_ask_60 : decode cX8_ask 60 = .ok (.getfield 34, 3) := by decide +kernel
theorem dX8_ask_63 : decode cX8_ask 63 = .ok (.iload_n 2, 1) := by decide +kernel
theorem dX8_ask_64 : decode cX8_ask 64 = .ok (.baload, 1) := by decide +kernel
theorem dX8_ask_65 : decode cX8_ask 65 = .ok (.ifCond .ne 13, 3) := by decide +kernel
theorem dX8_ask_68 : decode cX8_ask 68 = .ok (.aload 5, 2) := by decide +kernel
theorem dX8_ask_70 : decode cX8_ask 70 = .ok (.aload_n 3, 1) := by decide +kernel
theorem dX8_ask_71 : decode cX8_ask 71 = .ok (.getfield 50, 3) := by decide +kernel
theorem dX8_ask_74 : decode cX8_ask 74 = .ok (.invokevirtual 76, 3) := by decide +kernel
theorem dX8_ask_77 : decode cX8_ask 77 = .ok (.return_, 1) := by decide +kernel
theorem dX8_ask_78 : decode cX8_ask 78 = .ok (.aload 5, 2) := by decide +kernel
theorem dX8_ask_80 : decode cX8_ask 80 = .ok (.invokevirtual 79, 3) := by decide +kernel
theorem dX8_ask_83 : decode cX8_ask 83 = .ok (.aload_n 1, 1) := by decide +kernel
theorem dX8_ask_84 : decode cX8_ask 84 = .ok (.getfield 82, 3) := by decide +kernel
theorem dX8_ask_87 : decode cX8_ask 87 = .ok (.iload_n 2, 1) := by decide +kernel
theorem dX8_ask_88 : decode cX8_ask 88 = .ok (.baload, 1) := by decide +kernel
theorem dX8_ask_89 : decode cX8_ask 89 = .ok (.istore 6, 2) := by decide +kernel
theorem dX8_ask_91 : decode cX8_ask 91 = .ok (.iload 6, 2) := by decide +kernel
theorem dX8_ask_93 : decode cX8_ask 93 = .ok (.aload_n 1, 1) := by decide +kernel
theorem dX8_ask_94 : decode cX8_ask 94 = .ok (.getfield 85, 3) := by decide +kernel
theorem dX8_ask_97 : decode cX8_ask 97 = .ok (.iload_n 2, 1) := by decide +kernel
theorem dX8_ask_98 : decode cX8_ask 98 = .ok (.baload, 1) := by decide +kernel
theorem dX8_ask_99 : decode cX8_ask 99 = .ok (.if_icmp .gt 22, 3) := by decide +kernel
theorem dX8_ask_102 : decode cX8_ask 102 = .ok (.aload 5, 2) := by decide +kernel
theorem dX8_ask_104 : decode cX8_ask 104 = .ok (.aload_n 3, 1) := by decide +kernel
theorem dX8_ask_105 : decode cX8_ask 105 = .ok (.iload 4, 2) := by decide +kernel
theorem dX8_ask_107 : decode cX8_ask 107 = .ok (.iload 6, 2) := by decide +kernel
theorem dX8_ask_109 : decode cX8_ask 109 = .ok (.invokevirtual 88, 3) := by decide +kernel
theorem dX8_ask_112 : decode cX8_ask 112 = .ok (.invokevirtual 70, 3) := by decide +kernel
theorem dX8_ask_115 : decode cX8_ask 115 = .ok (.iinc 6 1, 3) := by decide +kernel
theorem dX8_ask_118 : decode cX8_ask 118 = .ok (.goto (-27), 3) := by decide +kernel
theorem dX8_ask_121 : decode cX8_ask 121 = .ok (.aload_n 0, 1) := by decide +kernel
theorem dX8_ask_122 : decode cX8_ask 122 = .ok (.getfield 17, 3) := by decide +kernel
theorem dX8_ask_125 : decode cX8_ask 125 = .ok (.aload_n 0, 1) := by decide +kernel
theorem dX8_ask_126 : decode cX8_ask 126 = .ok (.getfield 24, 3) := by decide +kernel
theorem dX8_ask_129 : decode cX8_ask 129 = .ok (.iconst 1, 1) := by decide +kernel
theorem dX8_ask_130 : decode cX8_ask 130 = .ok (.isub, 1) := by decide +kernel
theorem dX8_ask_131 : decode cX8_ask 131 = .ok (.aload_n 1, 1) := by decide +kernel
theorem dX8_ask_132 : decode cX8_ask 132 = .ok (.getfield 34, 3) := by decide +kernel
theorem dX8_ask_135 : decode cX8_ask 135 = .ok (.iload_n 2, 1) := by decide +kernel
theorem dX8_ask_136 : decode cX8_ask 136 = .ok (.baload, 1) := by decide +kernel
theorem dX8_ask_137 : decode cX8_ask 137 = .ok (.iconst 1, 1) := by decide +kernel
theorem dX8_ask_138 : decode cX8_ask 138 = .ok (.if_icmp .ne 15, 3) := by decide +kernel
theorem dX8_ask_141 : decode cX8_ask 141 = .ok (.aload 5, 2) := by decide +kernel
theorem dX8_ask_143 : decode cX8_ask 143 = .ok (.aload_n 3, 1) := by decide +kernel
theorem dX8_ask_144 : decode cX8_ask 144 = .ok (.getfield 50, 3) := by decide +kernel
theorem dX8_ask_147 : decode cX8_ask 147 = .ok (.invokevirtual 56, 3) := by decide +kernel
theorem dX8_ask_150 : decode cX8_ask 150 = .ok (.goto 9, 3) := by decide +kernel
theorem dX8_ask_153 : decode cX8_ask 153 = .ok (.aload_n 3, 1) := by decide +kernel
theorem dX8_ask_154 : decode cX8_ask 154 = .ok (.iload 4, 2) := by decide +kernel
theorem dX8_ask_156 : decode cX8_ask 156 = .ok (.invokevirtual 92, 3) := by decide +kernel
theorem dX8_ask_159 : decode cX8_ask 159 = .ok (.iastore, 1) := by decide +kernel
theorem dX8_ask_160 : decode cX8_ask 160 = .ok (.return_, 1) := by decide +kernel
theorem dJ13_bitCount_95d88_0 : decode cJ13_bitCount_95d88 0 = .ok (.lload_n 0, 1) := by decide +kernel
theorem dJ13_bitCount_95d88_1 : decode cJ13_bitCount_95d88 1 = .ok (.lload_n 0, 1) := by decide +kernel
theorem dJ13_bitCount_95d88_2 : decode cJ13_bitCount_95d88 2 = .ok (.iconst 1, 1) := by decide +kernel
theorem dJ13_bitCount_95d88_3 : decode cJ13_bitCount_95d88 3 = .ok (.lushr, 1) := by decide +kernel
theorem dJ13_bitCount_95d88_4 : decode cJ13_bitCount_95d88 4 = .ok (.ldc2_w 314, 3) := by decide +kernel
theorem dJ13_bitCount_95d88_7 : decode cJ13_bitCount_95d88 7 = .ok (.land, 1) := by decide +kernel
theorem dJ13_bitCount_95d88_8 : decode cJ13_bitCount_95d88 8 = .ok (.lsub, 1) := by decide +kernel
theorem dJ13_bitCount_95d88_9 : decode cJ13_bitCount_95d88 9 = .ok (.lstore_n 0, 1) := by decide +kernel
theorem dJ13_bitCount_95d88_10 : decode cJ13_bitCount_95d88 10 = .ok (.lload_n 0, 1) := by decide +kernel
theorem dJ13_bitCount_95d88_11 : decode cJ13_bitCount_95d88 11 = .ok (.ldc2_w 316, 3) := by decide +kernel
theorem dJ13_bitCount_95d88_14 : decode cJ13_bitCount_95d88 14 = .ok (.land, 1) := by decide +kernel
theorem dJ13_bitCount_95d88_15 : decode cJ13_bitCount_95d88 15 = .ok (.lload_n 0, 1) := by decide +kernel
theorem dJ13_bitCount_95d88_16 : decode cJ13_bitCount_95d88 16 = .ok (.iconst 2, 1) := by decide +kernel
theorem dJ13_bitCount_95d88_17 : decode cJ13_bitCount_95d88 17 = .ok (.lushr, 1) := by decide +kernel
theorem dJ13_bitCount_95d88_18 : decode cJ13_bitCount_95d88 18 = .ok (.ldc2_w 316, 3) := by decide +kernel
theorem dJ13_bitCount_95d88_21 : decode cJ13_bitCount_95d88 21 = .ok (.land, 1) := by decide +kernel
theorem dJ13_bitCount_95d88_22 : decode cJ13_bitCount_95d88 22 = .ok (.ladd, 1) := by decide +kernel
theorem dJ13_bitCount_95d88_23 : decode cJ13_bitCount_95d88 23 = .ok (.lstore_n 0, 1) := by decide +kernel
theorem dJ13_bitCount_95d88_24 : decode cJ13_bitCount_95d88 24 = .ok (.lload_n 0, 1) := by decide +kernel
theorem dJ13_bitCount_95d88_25 : decode cJ13_bitCount_95d88 25 = .ok (.lload_n 0, 1) := by decide +kernel
theorem dJ13_bitCount_95d88_26 : decode cJ13_bitCount_95d88 26 = .ok (.iconst 4, 1) := by decide +kernel
theorem dJ13_bitCount_95d88_27 : decode cJ13_bitCount_95d88 27 = .ok (.lushr, 1) := by decide +kernel
theorem dJ13_bitCount_95d88_28 : decode cJ13_bitCount_95d88 28 = .ok (.ladd, 1) := by decide +kernel
theorem dJ13_bitCount_95d88_29 : decode cJ13_bitCount_95d88 29 = .ok (.ldc2_w 318, 3) := by decide +kernel
theorem dJ13_bitCount_95d88_32 : decode cJ13_bitCount_95d88 32 = .ok (.land, 1) := by decide +kernel
theorem dJ13_bitCount_95d88_33 : decode cJ13_bitCount_95d88 33 = .ok (.lstore_n 0, 1) := by decide +kernel
theorem dJ13_bitCount_95d88_34 : decode cJ13_bitCount_95d88 34 = .ok (.lload_n 0, 1) := by decide +kernel
theorem dJ13_bitCount_95d88_35 : decode cJ13_bitCount_95d88 35 = .ok (.lload_n 0, 1) := by decide +kernel
theorem dJ13_bitCount_95d88_36 : decode cJ13_bitCount_95d88 36 = .ok (.bipush 8, 2) := by decide +kernel
theorem dJ13_bitCount_95d88_38 : decode cJ13_bitCount_95d88 38 = .ok (.lushr, 1) := by decide +kernel
theorem dJ13_bitCount_95d88_39 : decode cJ13_bitCount_95d88 39 = .ok (.ladd, 1) := by decide +kernel
theorem dJ13_bitCount_95d88_40 : decode cJ13_bitCount_95d88 40 = .ok (.lstore_n 0, 1) := by decide +kernel
theorem dJ13_bitCount_95d88_41 : decode cJ13_bitCount_95d88 41 = .ok (.lload_n 0, 1) := by decide +kernel
theorem dJ13_bitCount_95d88_42 : decode cJ13_bitCount_95d88 42 = .ok (.lload_n 0, 1) := by decide +kernel
theorem dJ13_bitCount_95d88_43 : decode cJ13_bitCount_95d88 43 = .ok (.bipush 16, 2) := by decide +kernel
theorem dJ13_bitCount_95d88_45 : decode cJ13_bitCount_95d88 45 = .ok (.lushr, 1) := by decide +kernel
theorem dJ13_bitCount_95d88_46 : decode cJ13_bitCount_95d88 46 = .ok (.ladd, 1) := by decide +kernel
theorem dJ13_bitCount_95d88_47 : decode cJ13_bitCount_95d88 47 = .ok (.lstore_n 0, 1) := by decide +kernel
theorem dJ13_bitCount_95d88_48 : decode cJ13_bitCount_95d88 48 = .ok (.lload_n 0, 1) := by decide +kernel
theorem dJ13_bitCount_95d88_49 : decode cJ13_bitCount_95d88 49 = .ok (.lload_n 0, 1) := by decide +kernel
theorem dJ13_bitCount_95d88_50 : decode cJ13_bitCount_95d88 50 = .ok (.bipush 32, 2) := by decide +kernel
theorem dJ13_bitCount_95d88_52 : decode cJ13_bitCount_95d88 52 = .ok (.lushr, 1) := by decide +kernel
theorem dJ13_bitCount_95d88_53 : decode cJ13_bitCount_95d88 53 = .ok (.ladd, 1) := by decide +kernel
theorem dJ13_bitCount_95d88_54 : decode cJ13_bitCount_95d88 54 = .ok (.lstore_n 0, 1) := by decide +kernel
theorem dJ13_bitCount_95d88_55 : decode cJ13_bitCount_95d88 55 = .ok (.lload_n 0, 1) := by decide +kernel
theorem dJ13_bitCount_95d88_56 : decode cJ13_bitCount_95d88 56 = .ok (.l2i, 1) := by decide +kernel
theorem dJ13_bitCount_95d88_57 : decode cJ13_bitCount_95d88 57 = .ok (.bipush 127, 2) := by decide +kernel
theorem dJ13_bitCount_95d88_59 : decode cJ13_bitCount_95d88 59 = .ok (.iand, 1) := by decide +kernel
theorem dJ13_bitCount_95d88_60 : decode cJ13_bitCount_95d88 60 = .ok (.ireturn, 1) := by decide +kernel
theorem dJ9_max_7cf53_0 : decode cJ9_max_7cf53 0 = .ok (.iload_n 0, 1) := by decide +kernel
theorem dJ9_max_7cf53_1 : decode cJ9_max_7cf53 1 = .ok (.iload_n 1, 1) := by decide +kernel
theorem dJ9_max_7cf53_2 : decode cJ9_max_7cf53 2 = .ok (.if_icmp .lt 7, 3) := by decide +kernel
theorem dJ9_max_7cf53_5 : decode cJ9_max_7cf53 5 = .ok (.iload_n 0, 1) := by decide +kernel
theorem dJ9_max_7cf53_6 : decode cJ9_max_7cf53 6 = .ok (.goto 4, 3) := by decide +kernel
theorem dJ9_max_7cf53_9 : decode cJ9_max_7cf53 9 = .ok (.iload_n 1, 1) := by decide +kernel
theorem dJ9_max_7cf53_10 : decode cJ9_max_7cf53 10 = .ok (.ireturn, 1) := by decide +kernel
theorem dJ0_length_8abf5_0 : decode cJ0_length_8abf5 0 = .ok (.aload_n 0, 1) := by decide +kernel
theorem dJ0_length_8abf5_1 : decode cJ0_length_8abf5 1 = .ok (.getfield 9, 3) := by decide +kernel
theorem dJ0_length_8abf5_4 : decode cJ0_length_8abf5 4 = .ok (.arraylength, 1) := by decide +kernel
theorem dJ0_length_8abf5_5 : decode cJ0_length_8abf5 5 = .ok (.aload_n 0, 1) := by decide +kernel
theorem dJ0_length_8abf5_6 : decode cJ0_length_8abf5 6 = .ok (.invokevirtual 335, 3) := by decide +kernel
theorem dJ0_length_8abf5_9 : decode cJ0_length_8abf5 9 = .ok (.ishr, 1) := by decide +kernel
theorem dJ0_length_8abf5_10 : decode cJ0_length_8abf5 10 = .ok (.ireturn, 1) := by decide +kernel
theorem dJ0_charAt_5068e_0 : decode cJ0_charAt_5068e 0 = .ok (.aload_n 0, 1) := by decide +kernel
theorem dJ0_charAt_5068e_1 : decode cJ0_charAt_5068e 1 = .ok (.invokevirtual 492, 3) := by decide +kernel
theorem dJ0_charAt_5068e_4 : decode cJ0_charAt_5068e 4 = .ok (.ifCond .eq 12, 3) := by decide +kernel
theorem dJ0_charAt_5068e_7 : decode cJ0_charAt_5068e 7 = .ok (.aload_n 0, 1) := by decide +kernel
theorem dJ0_charAt_5068e_8 : decode cJ0_charAt_5068e 8 = .ok (.getfield 9, 3) := by decide +kernel
theorem dJ0_charAt_5068e_11 : decode cJ0_charAt_5068e 11 = .ok (.iload_n 1, 1) := by decide +kernel
theorem dJ0_charAt_5068e_12 : decode cJ0_charAt_5068e 12 = .ok (.invokestatic 495, 3) := by decide +kernel
theorem dJ0_charAt_5068e_15 : decode cJ0_charAt_5068e 15 = .ok (.ireturn, 1) := by decide +kernel
theorem dJ0_charAt_5068e_16 : decode cJ0_charAt_5068e 16 = .ok (.aload_n 0, 1) := by decide +kernel
theorem dJ0_charAt_5068e_17 : decode cJ0_charAt_5068e 17 = .ok (.getfield 9, 3) := by decide +kernel
theorem dJ0_charAt_5068e_20 : decode cJ0_charAt_5068e 20 = .ok (.iload_n 1, 1) := by decide +kernel
theorem dJ0_charAt_5068e_21 : decode cJ0_charAt_5068e 21 = .ok (.invokestatic 498, 3) := by decide +kernel
theorem dJ0_charAt_5068e_24 : decode cJ0_charAt_5068e 24 = .ok (.ireturn, 1) := by decide +kernel
theorem dJ0_coder_7d493_0 : decode cJ0_coder_7d493 0 = .ok (.getstatic 38, 3) := by decide +kernel
theorem dJ0_coder_7d493_3 : decode cJ0_coder_7d493 3 = .ok (.ifCond .eq 10, 3) := by decide +kernel
theorem dJ0_coder_7d493_6 : decode cJ0_coder_7d493 6 = .ok (.aload_n 0, 1) := by decide +kernel
theorem dJ0_coder_7d493_7 : decode cJ0_coder_7d493 7 = .ok (.getfield 15, 3) := by decide +kernel
theorem dJ0_coder_7d493_10 : decode cJ0_coder_7d493 10 = .ok (.goto 4, 3) := by decide +kernel
theorem dJ0_coder_7d493_13 : decode cJ0_coder_7d493 13 = .ok (.iconst 1, 1) := by decide +kernel
theorem dJ0_coder_7d493_14 : decode cJ0_coder_7d493 14 = .ok (.ireturn, 1) := by decide +kernel
theorem dJ0_isLatin1_aae02_0 : decode cJ0_isLatin1_aae02 0 = .ok (.getstatic 38, 3) := by decide +kernel
theorem dJ0_isLatin1_aae02_3 : decode cJ0_isLatin1_aae02 3 = .ok (.ifCond .eq 14, 3) := by decide +kernel
theorem dJ0_isLatin1_aae02_6 : decode cJ0_isLatin1_aae02 6 = .ok (.aload_n 0, 1) := by decide +kernel
theorem dJ0_isLatin1_aae02_7 : decode cJ0_isLatin1_aae02 7 = .ok (.getfield 15, 3) := by decide +kernel
theorem dJ0_isLatin1_aae02_10 : decode cJ0_isLatin1_aae02 10 = .ok (.ifCond .ne 7, 3) := by decide +kernel
theorem dJ0_isLatin1_aae02_13 : decode cJ0_isLatin1_aae02 13 = .ok (.iconst 1, 1) := by decide +kernel
theorem dJ0_isLatin1_aae02_14 : decode cJ0_isLatin1_aae02 14 = .ok (.goto 4, 3) := by decide +kernel
theorem dJ0_isLatin1_aae02_17 : decode cJ0_isLatin1_aae02 17 = .ok (.iconst 0, 1) := by decide +kernel
theorem dJ0_isLatin1_aae02_18 : decode cJ0_isLatin1_aae02 18 = .ok (.ireturn, 1) := by decide +kernel
theorem dJ0_checkIndex_df160_0 : decode cJ0_checkIndex_df160 0 = .ok (.iload_n 0, 1) := by decide +kernel
theorem dJ0_checkIndex_df160_1 : decode cJ0_checkIndex_df160 1 = .ok (.iload_n 1, 1) := by decide +kernel
theorem dJ0_checkIndex_df160_2 : decode cJ0_checkIndex_df160 2 = .ok (.getstatic 1053, 3) := by decide +kernel
theorem dJ0_checkIndex_df160_5 : decode cJ0_checkIndex_df160 5 = .ok (.invokestatic 1059, 3) := by decide +kernel
theorem dJ0_checkIndex_df160_8 : decode cJ0_checkIndex_df160 8 = .ok (.pop, 1) := by decide +kernel
theorem dJ0_checkIndex_df160_9 : decode cJ0_checkIndex_df160 9 = .ok (.return_, 1) := by decide +kernel
theorem dJ1_charAt_3b067_0 : decode cJ1_charAt_3b067 0 = .ok (.iload_n 1, 1) := by decide +kernel
theorem dJ1_charAt_3b067_1 : decode cJ1_charAt_3b067 1 = .ok (.aload_n 0, 1) := by decide +kernel
theorem dJ1_charAt_3b067_2 : decode cJ1_charAt_3b067 2 = .ok (.arraylength, 1) := by decide +kernel
theorem dJ1_charAt_3b067_3 : decode cJ1_charAt_3b067 3 = .ok (.invokestatic 9, 3) := by decide +kernel
theorem dJ1_charAt_3b067_6 : decode cJ1_charAt_3b067 6 = .ok (.aload_n 0, 1) := by decide +kernel
theorem dJ1_charAt_3b067_7 : decode cJ1_charAt_3b067 7 = .ok (.iload_n 1, 1) := by decide +kernel
theorem dJ1_charAt_3b067_8 : decode cJ1_charAt_3b067 8 = .ok (.baload, 1) := by decide +kernel
theorem dJ1_charAt_3b067_9 : decode cJ1_charAt_3b067 9 = .ok (.sipush 255, 3) := by decide +kernel
theorem dJ1_charAt_3b067_12 : decode cJ1_charAt_3b067 12 = .ok (.iand, 1) := by decide +kernel
theorem dJ1_charAt_3b067_13 : decode cJ1_charAt_3b067 13 = .ok (.i2c, 1) := by decide +kernel
theorem dJ1_charAt_3b067_14 : decode cJ1_charAt_3b067 14 = .ok (.ireturn, 1) := by decide +kernel
theorem dJ7_fill_d0a16_0 : decode cJ7_fill_d0a16 0 = .ok (.iconst 0, 1) := by decide +kernel
theorem dJ7_fill_d0a16_1 : decode cJ7_fill_d0a16 1 = .ok (.istore_n 3, 1) := by decide +kernel
theorem dJ7_fill_d0a16_2 : decode cJ7_fill_d0a16 2 = .ok (.aload_n 0, 1) := by decide +kernel
theorem dJ7_fill_d0a16_3 : decode cJ7_fill_d0a16 3 = .ok (.arraylength, 1) := by decide +kernel
theorem dJ7_fill_d0a16_4 : decode cJ7_fill_d0a16 4 = .ok (.istore 4, 2) := by decide +kernel
theorem dJ7_fill_d0a16_6 : decode cJ7_fill_d0a16 6 = .ok (.iload_n 3, 1) := by decide +kernel
theorem dJ7_fill_d0a16_7 : decode cJ7_fill_d0a16 7 = .ok (.iload 4, 2) := by decide +kernel
theorem dJ7_fill_d0a16_9 : decode cJ7_fill_d0a16 9 = .ok (.if_icmp .ge 13, 3) := by decide +kernel
theorem dJ7_fill_d0a16_12 : decode cJ7_fill_d0a16 12 = .ok (.aload_n 0, 1) := by decide +kernel
theorem dJ7_fill_d0a16_13 : decode cJ7_fill_d0a16 13 = .ok (.iload_n 3, 1) := by decide +kernel
theorem dJ7_fill_d0a16_14 : decode cJ7_fill_d0a16 14 = .ok (.lload_n 1, 1) := by decide +kernel
theorem dJ7_fill_d0a16_15 : decode cJ7_fill_d0a16 15 = .ok (.lastore, 1) := by decide +kernel
theorem dJ7_fill_d0a16_16 : decode cJ7_fill_d0a16 16 = .ok (.iinc 3 1, 3) := by decide +kernel
theorem dJ7_fill_d0a16_19 : decode cJ7_fill_d0a16 19 = .ok (.goto (-13), 3) := by decide +kernel
theorem dJ7_fill_d0a16_22 : decode cJ7_fill_d0a16 22 = .ok (.return_, 1) := by decide +kernel
theorem dJ3_checkIndex_8e157_0 : decode cJ3_checkIndex_8e157 0 = .ok (.iload_n 0, 1) := by decide +kernel
theorem dJ3_checkIndex_8e157_1 : decode cJ3_checkIndex_8e157 1 = .ok (.ifCond .lt 8, 3) := by decide +kernel
theorem dJ3_checkIndex_8e157_4 : decode cJ3_checkIndex_8e157 4 = .ok (.iload_n 0, 1) := by decide +kernel
theorem dJ3_checkIndex_8e157_5 : decode cJ3_checkIndex_8e157 5 = .ok (.iload_n 1, 1) := by decide +kernel
theorem dJ3_checkIndex_8e157_6 : decode cJ3_checkIndex_8e157 6 = .ok (.if_icmp .lt 10, 3) := by decide +kernel
theorem dJ3_checkIndex_8e157_9 : decode cJ3_checkIndex_8e157 9 = .ok (.aload_n 2, 1) := by decide +kernel
theorem dJ3_checkIndex_8e157_10 : decode cJ3_checkIndex_8e157 10 = .ok (.iload_n 0, 1) := by decide +kernel
theorem dJ3_checkIndex_8e157_11 : decode cJ3_checkIndex_8e157 11 = .ok (.iload_n 1, 1) := by decide +kernel
theorem dJ3_checkIndex_8e157_12 : decode cJ3_checkIndex_8e157 12 = .ok (.invokestatic 95, 3) := by decide +kernel
theorem dJ3_checkIndex_8e157_15 : decode cJ3_checkIndex_8e157 15 = .ok (.athrow, 1) := by decide +kernel
theorem dJ3_checkIndex_8e157_16 : decode cJ3_checkIndex_8e157 16 = .ok (.iload_n 0, 1) := by decide +kernel
theorem dJ3_checkIndex_8e157_17 : decode cJ3_checkIndex_8e157 17 = .ok (.ireturn, 1) := by decide +kernel
end
section
/-! decode rows (printed by wip/whole/gen/mk04.py) -/
theorem dX9_init_0 : decode cX9_init 0 = .ok (.aload_n 0, 1) := by decide +kernel
theorem dX9_init_1 : decode cX9_init 1 = .ok (.invokespecial 5, 3) := by decide +kernel
theorem dX9_init_4 : decode cX9_init 4 = .ok (.aload_n 0, 1) := by decide +kernel
theorem dX9_init_5 : decode cX9_init 5 = .ok (.new 11, 3) := by decide +kernel
theorem dX9_init_8 : decode cX9_init 8 = .ok (.dup, 1) := by decide +kernel
theorem dX9_init_9 : decode cX9_init 9 = .ok (.invokespecial 13, 3) := by decide +kernel
theorem dX9_init_12 : decode cX9_init 12 = .ok (.putfield 14, 3) := by decide +kernel
theorem dX9_init_15 : decode cX9_init 15 = .ok (.aload_n 0, 1) := by decide +kernel
theorem dX9_init_16 : decode cX9_init 16 = .ok (.new 11, 3) := by decide +kernel
theorem dX9_init_19 : decode cX9_init 19 = .ok (.dup, 1) := by decide +kernel
theorem dX9_init_20 : decode cX9_init 20 = .ok (.invokespecial 13, 3) := by decide +kernel
theorem dX9_init_23 : decode cX9_init 23 = .ok (.putfield 18, 3) := by decide +kernel
theorem dX9_init_26 : decode cX9_init 26 = .ok (.aload_n 0, 1) := by decide +kernel
theorem dX9_init_27 : decode cX9_init 27 = .ok (.iconst 0, 1) := by decide +kernel
theorem dX9_init_28 : decode cX9_init 28 = .ok (.putfield 21, 3) := by decide +kernel
theorem dX9_init_31 : decode cX9_init 31 = .ok (.aload_n 0, 1) := by decide +kernel
theorem dX9_init_32 : decode cX9_init 32 = .ok (.new 25, 3) := by decide +kernel
theorem dX9_init_35 : decode cX9_init 35 = .ok (.dup, 1) := by decide +kernel
theorem dX9_init_36 : decode cX9_init 36 = .ok (.invokespecial 27, 3) := by decide +kernel
theorem dX9_init_39 : decode cX9_init 39 = .ok (.putfield 28, 3) := by decide +kernel
theorem dX9_init_42 : decode cX9_init 42 = .ok (.aload_n 0, 1) := by decide +kernel
theorem dX9_init_43 : decode cX9_init 43 = .ok (.bipush 8, 2) := by decide +kernel
theorem dX9_init_45 : decode cX9_init 45 = .ok (.anewarray 32, 3) := by decide +kernel
theorem dX9_init_48 : decode cX9_init 48 = .ok (.putfield 34, 3) := by decide +kernel
theorem dX9_init_51 : decode cX9_init 51 = .ok (.aload_n 0, 1) := by decide +kernel
theorem dX9_init_52 : decode cX9_init 52 = .ok (.iconst 0, 1) := by decide +kernel
theorem dX9_init_53 : decode cX9_init 53 = .ok (.putfield 38, 3) := by decide +kernel
theorem dX9_init_56 : decode cX9_init 56 = .ok (.aload_n 0, 1) := by decide +kernel
theorem dX9_init_57 : decode cX9_init 57 = .ok (.bipush 6, 2) := by decide +kernel
theorem dX9_init_59 : decode cX9_init 59 = .ok (.anewarray 42, 3) := by decide +kernel
theorem dX9_init_62 : decode cX9_init 62 = .ok (.putfield 44, 3) := by decide +kernel
theorem dX9_init_65 : decode cX9_init 65 = .ok (.aload_n 0, 1) := by decide +kernel
theorem dX9_init_66 : decode cX9_init 66 = .ok (.new 48, 3) := by decide +kernel
theorem dX9_init_69 : decode cX9_init 69 = .ok (.dup, 1) := by decide +kernel
theorem dX9_init_70 : decode cX9_init 70 = .ok (.invokespecial 50, 3) := by decide +kernel
theorem dX9_init_73 : decode cX9_init 73 = .ok (.putfield 51, 3) := by decide +kernel
theorem dX9_init_76 : decode cX9_init 76 = .ok (.aload_n 0, 1) := by decide +kernel
theorem dX9_init_77 : decode cX9_init 77 = .ok (.new 48, 3) := by decide +kernel
theorem dX9_init_80 : decode cX9_init 80 = .ok (.dup, 1) := by decide +kernel
theorem dX9_init_81 : decode cX9_init 81 = .ok (.invokespecial 50, 3) := by decide +kernel
theorem dX9_init_84 : decode cX9_init 84 = .ok (.putfield 55, 3) := by decide +kernel
theorem dX9_init_87 : decode cX9_init 87 = .ok (.aload_n 0, 1) := by decide +kernel
theorem dX9_init_88 : decode cX9_init 88 = .ok (.new 58, 3) := by decide +kernel
theorem dX9_init_91 : decode cX9_init 91 = .ok (.dup, 1) := by decide +kernel
theorem dX9_init_92 : decode cX9_init 92 = .ok (.invokespecial 60, 3) := by decide +kernel
theorem dX9_init_95 : decode cX9_init 95 = .ok (.putfield 61, 3) := by decide +kernel
theorem dX9_init_98 : decode cX9_init 98 = .ok (.aload_n 0, 1) := by decide +kernel
theorem dX9_init_99 : decode cX9_init 99 = .ok (.new 65, 3) := by decide +kernel
theorem dX9_init_102 : decode cX9_init 102 = .ok (.dup, 1) := by decide +kernel
theorem dX9_init_103 : decode cX9_init 103 = .ok (.invokespecial 67, 3) := by decide +kernel
theorem dX9_init_106 : decode cX9_init 106 = .ok (.putfield 68, 3) := by decide +kernel
theorem dX9_init_109 : decode cX9_init 109 = .ok (.aload_n 0, 1) := by decide +kernel
theorem dX9_init_110 : decode cX9_init 110 = .ok (.new 72, 3) := by decide +kernel
theorem dX9_init_113 : decode cX9_init 113 = .ok (.dup, 1) := by decide +kernel
theorem dX9_init_114 : decode cX9_init 114 = .ok (.invokespecial 74, 3) := by decide +kernel
theorem dX9_init_117 : decode cX9_init 117 = .ok (.putfield 75, 3) := by decide +kernel
theorem dX9_init_120 : decode cX9_init 120 = .ok (.iconst 0, 1) := by decide +kernel
theorem dX9_init_121 : decode cX9_init 121 = .ok (.istore_n 1, 1) := by decide +kernel
theorem dX9_init_122 : decode cX9_init 122 = .ok (.iload_n 1, 1) := by decide +kernel
theorem dX9_init_123 : decode cX9_init 123 = .ok (.bipush 8, 2) := by decide +kernel
theorem dX9_init_125 : decode cX9_init 125 = .ok (.if_icmp .ge 22, 3) := by decide +kernel
theorem dX9_init_128 : decode cX9_init 128 = .ok (.aload_n 0, 1) := by decide +kernel
theorem dX9_init_129 : decode cX9_init 129 = .ok (.getfield 34, 3) := by decide +kernel
theorem dX9_init_132 : decode cX9_init 132 = .ok (.iload_n 1, 1) := by decide +kernel
theorem dX9_init_133 : decode cX9_init 133 = .ok (.new 32, 3) := by decide +kernel
theorem dX9_init_136 : decode cX9_init 136 = .ok (.dup, 1) := by decide +kernel
theorem dX9_init_137 : decode cX9_init 137 = .ok (.invokespecial 79, 3) := by decide +kernel
theorem dX9_init_140 : decode cX9_init 140 = .ok (.aastore, 1) := by decide +kernel
theorem dX9_init_141 : decode cX9_init 141 = .ok (.iinc 1 1, 3) := by decide +kernel
theorem dX9_init_144 : decode cX9_init 144 = .ok (.goto (-22), 3) := by decide +kernel
theorem dX9_init_147 : decode cX9_init 147 = .ok (.iconst 0, 1) := by decide +kernel
theorem dX9_init_148 : decode cX9_init 148 = .ok (.istore_n 1, 1) := by decide +kernel
theorem dX9_init_149 : decode cX9_init 149 = .ok (.iload_n 1, 1) := by decide +kernel
theorem dX9_init_150 : decode cX9_init 150 = .ok (.bipush 6, 2) := by decide +kernel
theorem dX9_init_152 : decode cX9_init 152 = .ok (.if_icmp .ge 22, 3) := by decide +kernel
theorem dX9_init_155 : decode cX9_init 155 = .ok (.aload_n 0, 1) := by decide +kernel
theorem dX9_init_156 : decode cX9_init 156 = .ok (.getfield 44, 3) := by decide +kernel
theorem dX9_init_159 : decode cX9_init 159 = .ok (.iload_n 1, 1) := by decide +kernel
theorem dX9_init_160 : decode cX9_init 160 = .ok (.new 42, 3) := by decide +kernel
theorem dX9_init_163 : decode cX9_init 163 = .ok (.dup, 1) := by decide +kernel
theorem dX9_init_164 : decode cX9_init 164 = .ok (.invokespecial 80, 3) := by decide +kernel
theorem dX9_init_167 : decode cX9_init 167 = .ok (.aastore, 1) := by decide +kernel
theorem dX9_init_168 : decode cX9_init 168 = .ok (.iinc 1 1, 3) := by decide +kernel
theorem dX9_init_171 : decode cX9_init 171 = .ok (.goto (-22), 3) := by decide +kernel
theorem dX9_init_174 : decode cX9_init 174 = .ok (.return_, 1) := by decide +kernel
theorem dX9_add_0 : decode cX9_add 0 = .ok (.iload_n 1, 1) := by decide +kernel
theorem dX9_add_1 : decode cX9_add 1 = .ok (.invokestatic 81, 3) := by decide +kernel
theorem dX9_add_4 : decode cX9_add 4 = .ok (.ifCond .eq 25, 3) := by decide +kernel
theorem dX9_add_7 : decode cX9_add 7 = .ok (.iload_n 2, 1) := by decide +kernel
theorem dX9_add_8 : decode cX9_add 8 = .ok (.invokestatic 81, 3) := by decide +kernel
theorem dX9_add_11 : decode cX9_add 11 = .ok (.ifCond .eq 18, 3) := by decide +kernel
theorem dX9_add_14 : decode cX9_add 14 = .ok (.iload_n 3, 1) := by decide +kernel
theorem dX9_add_15 : decode cX9_add 15 = .ok (.invokestatic 81, 3) := by decide +kernel
theorem dX9_add_18 : decode cX9_add 18 = .ok (.ifCond .eq 11, 3) := by decide +kernel
theorem dX9_add_21 : decode cX9_add 21 = .ok (.iload 4, 2) := by decide +kernel
theorem dX9_add_23 : decode cX9_add 23 = .ok (.invokestatic 81, 3) := by decide +kernel
theorem dX9_add_26 : decode cX9_add 26 = .ok (.ifCond .ne 6, 3) := by decide +kernel
theorem dX9_add_29 : decode cX9_add 29 = .ok (.bipush (-2), 2) := by decide +kernel
theorem dX9_add_31 : decode cX9_add 31 = .ok (.ireturn, 1) := by decide +kernel
theorem dX9_add_32 : decode cX9_add 32 = .ok (.aload_n 0, 1) := by decide +kernel
theorem dX9_add_33 : decode cX9_add 33 = .ok (.getfield 14, 3) := by decide +kernel
theorem dX9_add_36 : decode cX9_add 36 = .ok (.getfield 85, 3) := by decide +kernel
theorem dX9_add_39 : decode cX9_add 39 = .ok (.invokevirtual 88, 3) := by decide +kernel
theorem dX9_add_42 : decode cX9_add 42 = .ok (.ifCond .eq 6, 3) := by decide +kernel
theorem dX9_add_45 : decode cX9_add 45 = .ok (.bipush (-4), 2) := by decide +kernel
theorem dX9_add_47 : decode cX9_add 47 = .ok (.ireturn, 1) := by decide +kernel
theorem dX9_add_48 : decode cX9_add 48 = .ok (.aload_n 0, 1) := by decide +kernel
theorem dX9_add_49 : decode cX9_add 49 = .ok (.getfield 14, 3) := by decide +kernel
theorem dX9_add_52 : decode cX9_add 52 = .ok (.getfield 85, 3) := by decide +kernel
theorem dX9_add_55 : decode cX9_add 55 = .ok (.iload_n 1, 1) := by decide +kernel
theorem dX9_add_56 : decode cX9_add 56 = .ok (.iload_n 2, 1) := by decide +kernel
theorem dX9_add_57 : decode cX9_add 57 = .ok (.iload_n 3, 1) := by decide +kernel
theorem dX9_add_58 : decode cX9_add 58 = .ok (.iload 4, 2) := by decide +kernel
theorem dX9_add_60 : decode cX9_add 60 = .ok (.invokevirtual 92, 3) := by decide +kernel
theorem dX9_add_63 : decode cX9_add 63 = .ok (.aload_n 0, 1) := by decide +kernel
theorem dX9_add_64 : decode cX9_add 64 = .ok (.getfield 14, 3) := by decide +kernel
theorem dX9_add_67 : decode cX9_add 67 = .ok (.getfield 85, 3) := by decide +kernel
theorem dX9_add_70 : decode cX9_add 70 = .ok (.getfield 96, 3) := by decide +kernel
theorem dX9_add_73 : decode cX9_add 73 = .ok (.iconst 1, 1) := by decide +kernel
theorem dX9_add_74 : decode cX9_add 74 = .ok (.isub, 1) := by decide +kernel
theorem dX9_add_75 : decode cX9_add 75 = .ok (.ireturn, 1) := by decide +kernel
theorem dX9_at_0 : decode cX9_at 0 = .ok (.aload_n 0, 1) := by decide +kernel
theorem dX9_at_1 : decode cX9_at 1 = .ok (.getfield 14, 3) := by decide +kernel
theorem dX9_at_4 : decode cX9_at 4 = .ok (.getfield 85, 3) := by decide +kernel
theorem dX9_at_7 : decode cX9_at 7 = .ok (.iload_n 1, 1) := by decide +kernel
theorem dX9_at_8 : decode cX9_at 8 = .ok (.invokevirtual 99, 3) := by decide +kernel
theorem dX9_at_11 : decode cX9_at 11 = .ok (.ifCond .eq 10, 3) := by decide +kernel
theorem dX9_at_14 : decode cX9_at 14 = .ok (.iload_n 2, 1) := by decide +kernel
theorem dX9_at_15 : decode cX9_at 15 = .ok (.invokestatic 102, 3) := by decide +kernel
theorem dX9_at_18 : decode cX9_at 18 = .ok (.ifCond .ne 5, 3) := by decide +kernel
theorem dX9_at_21 : decode cX9_at 21 = .ok (.iconst (-1), 1) := by decide +kernel
theorem dX9_at_22 : decode cX9_at 22 = .ok (.ireturn, 1) := by decide +kernel
theorem dX9_at_23 : decode cX9_at 23 = .ok (.aload_n 0, 1) := by decide +kernel
theorem dX9_at_24 : decode cX9_at 24 = .ok (.getfield 14, 3) := by decide +kernel
theorem dX9_at_27 : decode cX9_at 27 = .ok (.getfield 85, 3) := by decide +kernel
theorem dX9_at_30 : decode cX9_at 30 = .ok (.iload_n 1, 1) := by decide +kernel
theorem dX9_at_31 : decode cX9_at 31 = .ok (.iload_n 2, 1) := by decide +kernel
theorem dX9_at_32 : decode cX9_at 32 = .ok (.invokevirtual 105, 3) := by decide +kernel
theorem dX9_at_35 : decode cX9_at 35 = .ok (.ireturn, 1) := by decide +kernel
theorem dX9_mark_0 : decode cX9_mark 0 = .ok (.aload_n 0, 1) := by decide +kernel
theorem dX9_mark_1 : decode cX9_mark 1 = .ok (.getfield 14, 3) := by decide +kernel
theorem dX9_mark_4 : decode cX9_mark 4 = .ok (.getfield 109, 3) := by decide +kernel
theorem dX9_mark_7 : decode cX9_mark 7 = .ok (.bipush 10, 2) := by decide +kernel
theorem dX9_mark_9 : decode cX9_mark 9 = .ok (.if_icmp .lt 6, 3) := by decide +kernel
theorem dX9_mark_12 : decode cX9_mark 12 = .ok (.bipush (-4), 2) := by decide +kernel
theorem dX9_mark_14 : decode cX9_mark 14 = .ok (.ireturn, 1) := by decide +kernel
theorem dX9_mark_15 : decode cX9_mark 15 = .ok (.aload_n 0, 1) := by decide +kernel
theorem dX9_mark_16 : decode cX9_mark 16 = .ok (.getfield 14, 3) := by decide +kernel
theorem dX9_mark_19 : decode cX9_mark 19 = .ok (.getfield 112, 3) := by decide +kernel
theorem dX9_mark_22 : decode cX9_mark 22 = .ok (.aload_n 0, 1) := by decide +kernel
theorem dX9_mark_23 : decode cX9_mark 23 = .ok (.getfield 14, 3) := by decide +kernel
theorem dX9_mark_26 : decode cX9_mark 26 = .ok (.getfield 109, 3) := by decide +kernel
theorem dX9_mark_29 : decode cX9_mark 29 = .ok (.aload_n 0, 1) := by decide +kernel
theorem dX9_mark_30 : decode cX9_mark 30 = .ok (.getfield 14, 3) := by decide +kernel
theorem dX9_mark_33 : decode cX9_mark 33 = .ok (.getfield 85, 3) := by decide +kernel
theorem dX9_mark_36 : decode cX9_mark 36 = .ok (.getfield 96, 3) := by decide +kernel
theorem dX9_mark_39 : decode cX9_mark 39 = .ok (.iastore, 1) := by decide +kernel
theorem dX9_mark_40 : decode cX9_mark 40 = .ok (.aload_n 0, 1) := by decide +kernel
theorem dX9_mark_41 : decode cX9_mark 41 = .ok (.getfield 14, 3) := by decide +kernel
theorem dX9_mark_44 : decode cX9_mark 44 = .ok (.dup, 1) := by decide +kernel
theorem dX9_mark_45 : decode cX9_mark 45 = .ok (.getfield 109, 3) := by decide +kernel
theorem dX9_mark_48 : decode cX9_mark 48 = .ok (.iconst 1, 1) := by decide +kernel
theorem dX9_mark_49 : decode cX9_mark 49 = .ok (.iadd, 1) := by decide +kernel
theorem dX9_mark_50 : decode cX9_mark 50 = .ok (.putfield 109, 3) := by decide +kernel
theorem dX9_mark_53 : decode cX9_mark 53 = .ok (.aload_n 0, 1) := by decide +kernel
theorem dX9_mark_54 : decode cX9_mark 54 = .ok (.getfield 14, 3) := by decide +kernel
theorem dX9_mark_57 : decode cX9_mark 57 = .ok (.getfield 109, 3) := by decide +kernel
theorem dX9_mark_60 : decode cX9_mark 60 = .ok (.iconst 1, 1) := by decide +kernel
theorem dX9_mark_61 : decode cX9_mark 61 = .ok (.isub, 1) := by decide +kernel
theorem dX9_mark_62 : decode cX9_mark 62 = .ok (.ireturn, 1) := by decide +kernel
theorem dX9_back_0 : decode cX9_back 0 = .ok (.aload_n 0, 1) := by decide +kernel
theorem dX9_back_1 : decode cX9_back 1 = .ok (.getfield 14, 3) := by decide +kernel
theorem dX9_back_4 : decode cX9_back 4 = .ok (.iload_n 1, 1) := by decide +kernel
theorem dX9_back_5 : decode cX9_back 5 = .ok (.invokevirtual 116, 3) := by decide +kernel
theorem dX9_back_8 : decode cX9_back 8 = .ok (.ifCond .ne 5, 3) := by decide +kernel
theorem dX9_back_11 : decode cX9_back 11 = .ok (.iconst (-1), 1) := by decide +kernel
theorem dX9_back_12 : decode cX9_back 12 = .ok (.ireturn, 1) := by decide +kernel
theorem dX9_back_13 : decode cX9_back 13 = .ok (.aload_n 0, 1) := by decide +kernel
theorem dX9_back_14 : decode cX9_back 14 = .ok (.getfield 14, 3) := by decide +kernel
theorem dX9_back_17 : decode cX9_back 17 = .ok (.getfield 85, 3) := by decide +kernel
theorem dX9_back_20 : decode cX9_back 20 = .ok (.getfield 96, 3) := by decide +kernel
theorem dX9_back_23 : decode cX9_back 23 = .ok (.istore_n 2, 1) := by decide +kernel
theorem dX9_back_24 : decode cX9_back 24 = .ok (.aload_n 0, 1) := by decide +kernel
theorem dX9_back_25 : decode cX9_back 25 = .ok (.getfield 14, 3) := by decide +kernel
theorem dX9_back_28 : decode cX9_back 28 = .ok (.getfield 85, 3) := by decide +kernel
theorem dX9_back_31 : decode cX9_back 31 = .ok (.aload_n 0, 1) := by decide +kernel
theorem dX9_back_32 : decode cX9_back 32 = .ok (.getfield 14, 3) := by decide +kernel
theorem dX9_back_35 : decode cX9_back 35 = .ok (.getfield 112, 3) := by decide +kernel
theorem dX9_back_38 : decode cX9_back 38 = .ok (.iload_n 1, 1) := by decide +kernel
theorem dX9_back_39 : decode cX9_back 39 = .ok (.iaload, 1) := by decide +kernel
theorem dX9_back_40 : decode cX9_back 40 = .ok (.invokevirtual 119, 3) := by decide +kernel
theorem dX9_back_43 : decode cX9_back 43 = .ok (.aload_n 0, 1) := by decide +kernel
theorem dX9_back_44 : decode cX9_back 44 = .ok (.getfield 14, 3) := by decide +kernel
theorem dX9_back_47 : decode cX9_back 47 = .ok (.iload_n 1, 1) := by decide +kernel
theorem dX9_back_48 : decode cX9_back 48 = .ok (.iconst 1, 1) := by decide +kernel
theorem dX9_back_49 : decode cX9_back 49 = .ok (.iadd, 1) := by decide +kernel
theorem dX9_back_50 : decode cX9_back 50 = .ok (.putfield 109, 3) := by decide +kernel
theorem dX9_back_53 : decode cX9_back 53 = .ok (.iload_n 2, 1) := by decide +kernel
theorem dX9_back_54 : decode cX9_back 54 = .ok (.aload_n 0, 1) := by decide +kernel
theorem dX9_back_55 : decode cX9_back 55 = .ok (.getfield 14, 3) := by decide +kernel
theorem dX9_back_58 : decode cX9_back 58 = .ok (.getfield 85, 3) := by decide +kernel
theorem dX9_back_61 : decode cX9_back 61 = .ok (.getfield 96, 3) := by decide +kernel
theorem dX9_back_64 : decode cX9_back 64 = .ok (.isub, 1) := by decide +kernel
theorem dX9_back_65 : decode cX9_back 65 = .ok (.ireturn, 1) := by decide +kernel
theorem dX9_runs_0 : decode cX9_runs 0 = .ok (.iload_n 1, 1) := by decide +kernel
theorem dX9_runs_1 : decode cX9_runs 1 = .ok (.invokestatic 102, 3) := by decide +kernel
theorem dX9_runs_4 : decode cX9_runs 4 = .ok (.ifCond .eq 10, 3) := by decide +kernel
theorem dX9_runs_7 : decode cX9_runs 7 = .ok (.iload_n 2, 1) := by decide +kernel
theorem dX9_runs_8 : decode cX9_runs 8 = .ok (.invokestatic 123, 3) := by decide +kernel
theorem dX9_runs_11 : decode cX9_runs 11 = .ok (.ifCond .ne 5, 3) := by decide +kernel
theorem dX9_runs_14 : decode cX9_runs 14 = .ok (.iconst (-1), 1) := by decide +kernel
theorem dX9_runs_15 : decode cX9_runs 15 = .ok (.ireturn, 1) := by decide +kernel
theorem dX9_runs_16 : decode cX9_runs 16 = .ok (.aload_n 0, 1) := by decide +kernel
theorem dX9_runs_17 : decode cX9_runs 17 = .ok (.getfield 14, 3) := by decide +kernel
theorem dX9_runs_20 : decode cX9_runs 20 = .ok (.getfield 85, 3) := by decide +kernel
theorem dX9_runs_23 : decode cX9_runs 23 = .ok (.iload_n 1, 1) := by decide +kernel
theorem dX9_runs_24 : decode cX9_runs 24 = .ok (.iload_n 2, 1) := by decide +kernel
theorem dX9_runs_25 : decode cX9_runs 25 = .ok (.invokevirtual 126, 3) := by decide +kernel
theorem dX9_runs_28 : decode cX9_runs 28 = .ok (.aload_n 0, 1) := by decide +kernel
theorem dX9_runs_29 : decode cX9_runs 29 = .ok (.getfield 14, 3) := by decide +kernel
theorem dX9_runs_32 : decode cX9_runs 32 = .ok (.getfield 85, 3) := by decide +kernel
theorem dX9_runs_35 : decode cX9_runs 35 = .ok (.getfield 96, 3) := by decide +kernel
theorem dX9_runs_38 : decode cX9_runs 38 = .ok (.invokevirtual 130, 3) := by decide +kernel
theorem dX9_runs_41 : decode cX9_runs 41 = .ok (.ireturn, 1) := by decide +kernel
theorem dX9_run_0 : decode cX9_run 0 = .ok (.iload_n 1, 1) := by decide +kernel
theorem dX9_run_1 : decode cX9_run 1 = .ok (.invokestatic 102, 3) := by decide +kernel
theorem dX9_run_4 : decode cX9_run 4 = .ok (.ifCond .eq 14, 3) := by decide +kernel
theorem dX9_run_7 : decode cX9_run 7 = .ok (.iload_n 2, 1) := by decide +kernel
theorem dX9_run_8 : decode cX9_run 8 = .ok (.invokestatic 123, 3) := by decide +kernel
theorem dX9_run_11 : decode cX9_run 11 = .ok (.ifCond .eq 7, 3) := by decide +kernel
theorem dX9_run_14 : decode cX9_run 14 = .ok (.iload_n 3, 1) := by decide +kernel
theorem dX9_run_15 : decode cX9_run 15 = .ok (.ifCond .ge 5, 3) := by decide +kernel
theorem dX9_run_18 : decode cX9_run 18 = .ok (.iconst (-1), 1) := by decide +kernel
theorem dX9_run_19 : decode cX9_run 19 = .ok (.ireturn, 1) := by decide +kernel
theorem dX9_run_20 : decode cX9_run 20 = .ok (.aload_n 0, 1) := by decide +kernel
theorem dX9_run_21 : decode cX9_run 21 = .ok (.getfield 14, 3) := by decide +kernel
theorem dX9_run_24 : decode cX9_run 24 = .ok (.getfield 85, 3) := by decide +kernel
theorem dX9_run_27 : decode cX9_run 27 = .ok (.iload_n 1, 1) := by decide +kernel
theorem dX9_run_28 : decode cX9_run 28 = .ok (.iload_n 2, 1) := by decide +kernel
theorem dX9_run_29 : decode cX9_run 29 = .ok (.invokevirtual 126, 3) := by decide +kernel
theorem dX9_run_32 : decode cX9_run 32 = .ok (.astore 4, 2) := by decide +kernel
theorem dX9_run_34 : decode cX9_run 34 = .ok (.aload_n 0, 1) := by decide +kernel
theorem dX9_run_35 : decode cX9_run 35 = .ok (.getfield 14, 3) := by decide +kernel
theorem dX9_run_38 : decode cX9_run 38 = .ok (.getfield 85, 3) := by decide +kernel
theorem dX9_run_41 : decode cX9_run 41 = .ok (.getfield 96, 3) := by decide +kernel
theorem dX9_run_44 : decode cX9_run 44 = .ok (.istore 5, 2) := by decide +kernel
theorem dX9_run_46 : decode cX9_run 46 = .ok (.aload 4, 2) := by decide +kernel
theorem dX9_run_48 : decode cX9_run 48 = .ok (.iload_n 3, 1) := by decide +kernel
theorem dX9_run_49 : decode cX9_run 49 = .ok (.iload 5, 2) := by decide +kernel
theorem dX9_run_51 : decode cX9_run 51 = .ok (.invokevirtual 134, 3) := by decide +kernel
theorem dX9_run_54 : decode cX9_run 54 = .ok (.istore 6, 2) := by decide +kernel
theorem dX9_run_56 : decode cX9_run 56 = .ok (.iload 6, 2) := by decide +kernel
theorem dX9_run_58 : decode cX9_run 58 = .ok (.ifCond .ge 6, 3) := by decide +kernel
theorem dX9_run_61 : decode cX9_run 61 = .ok (.bipush (-5), 2) := by decide +kernel
theorem dX9_run_63 : decode cX9_run 63 = .ok (.ireturn, 1) := by decide +kernel
theorem dX9_run_64 : decode cX9_run 64 = .ok (.aload 4, 2) := by decide +kernel
theorem dX9_run_66 : decode cX9_run 66 = .ok (.iload 6, 2) := by decide +kernel
theorem dX9_run_68 : decode cX9_run 68 = .ok (.iload 5, 2) := by decide +kernel
theorem dX9_run_70 : decode cX9_run 70 = .ok (.invokevirtual 137, 3) := by decide +kernel
theorem dX9_run_73 : decode cX9_run 73 = .ok (.iload 6, 2) := by decide +kernel
theorem dX9_run_75 : decode cX9_run 75 = .ok (.isub, 1) := by decide +kernel
theorem dX9_run_76 : decode cX9_run 76 = .ok (.istore 7, 2) := by decide +kernel
theorem dX9_run_78 : decode cX9_run 78 = .ok (.aload 4, 2) := by decide +kernel
theorem dX9_run_80 : decode cX9_run 80 = .ok (.iload 6, 2) := by decide +kernel
theorem dX9_run_82 : decode cX9_run 82 = .ok (.invokevirtual 140, 3) := by decide +kernel
theorem dX9_run_85 : decode cX9_run 85 = .ok (.ifCond .eq 11, 3) := by decide +kernel
theorem dX9_run_88 : decode cX9_run 88 = .ok (.bipush (-10), 2) := by decide +kernel
theorem dX9_run_90 : decode cX9_run 90 = .ok (.iload 7, 2) := by decide +kernel
theorem dX9_run_92 : decode cX9_run 92 = .ok (.isub, 1) := by decide +kernel
theorem dX9_run_93 : decode cX9_run 93 = .ok (.goto 5, 3) := by decide +kernel
theorem dX9_run_96 : decode cX9_run 96 = .ok (.iload 7, 2) := by decide +kernel
theorem dX9_run_98 : decode cX9_run 98 = .ok (.ireturn, 1) := by decide +kernel
theorem dX9_feed_0 : decode cX9_feed 0 = .ok (.iload_n 1, 1) := by decide +kernel
theorem dX9_feed_1 : decode cX9_feed 1 = .ok (.ifCond .lt 9, 3) := by decide +kernel
theorem dX9_feed_4 : decode cX9_feed 4 = .ok (.iload_n 1, 1) := by decide +kernel
theorem dX9_feed_5 : decode cX9_feed 5 = .ok (.bipush 127, 2) := by decide +kernel
theorem dX9_feed_7 : decode cX9_feed 7 = .ok (.if_icmp .le 6, 3) := by decide +kernel
theorem dX9_feed_10 : decode cX9_feed 10 = .ok (.bipush (-2), 2) := by decide +kernel
theorem dX9_feed_12 : decode cX9_feed 12 = .ok (.ireturn, 1) := by decide +kernel
theorem dX9_feed_13 : decode cX9_feed 13 = .ok (.aload_n 0, 1) := by decide +kernel
theorem dX9_feed_14 : decode cX9_feed 14 = .ok (.getfield 28, 3) := by decide +kernel
theorem dX9_feed_17 : decode cX9_feed 17 = .ok (.getfield 143, 3) := by decide +kernel
theorem dX9_feed_20 : decode cX9_feed 20 = .ok (.bipush 100, 2) := by decide +kernel
theorem dX9_feed_22 : decode cX9_feed 22 = .ok (.if_icmp .lt 6, 3) := by decide +kernel
theorem dX9_feed_25 : decode cX9_feed 25 = .ok (.bipush (-4), 2) := by decide +kernel
theorem dX9_feed_27 : decode cX9_feed 27 = .ok (.ireturn, 1) := by decide +kernel
theorem dX9_feed_28 : decode cX9_feed 28 = .ok (.aload_n 0, 1) := by decide +kernel
theorem dX9_feed_29 : decode cX9_feed 29 = .ok (.getfield 28, 3) := by decide +kernel
theorem dX9_feed_32 : decode cX9_feed 32 = .ok (.iload_n 1, 1) := by decide +kernel
theorem dX9_feed_33 : decode cX9_feed 33 = .ok (.invokevirtual 146, 3) := by decide +kernel
theorem dX9_feed_36 : decode cX9_feed 36 = .ok (.aload_n 0, 1) := by decide +kernel
theorem dX9_feed_37 : decode cX9_feed 37 = .ok (.getfield 28, 3) := by decide +kernel
theorem dX9_feed_40 : decode cX9_feed 40 = .ok (.getfield 143, 3) := by decide +kernel
theorem dX9_feed_43 : decode cX9_feed 43 = .ok (.ireturn, 1) := by decide +kernel
theorem dX9_query_0 : decode cX9_query 0 = .ok (.aload_n 0, 1) := by decide +kernel
theorem dX9_query_1 : decode cX9_query 1 = .ok (.getfield 38, 3) := by decide +kernel
theorem dX9_query_4 : decode cX9_query 4 = .ok (.bipush 8, 2) := by decide +kernel
theorem dX9_query_6 : decode cX9_query 6 = .ok (.if_icmp .lt 6, 3) := by decide +kernel
theorem dX9_query_9 : decode cX9_query 9 = .ok (.bipush (-4), 2) := by decide +kernel
theorem dX9_query_11 : decode cX9_query 11 = .ok (.ireturn, 1) := by decide +kernel
theorem dX9_query_12 : decode cX9_query 12 = .ok (.aload_n 0, 1) := by decide +kernel
theorem dX9_query_13 : decode cX9_query 13 = .ok (.getfield 28, 3) := by decide +kernel
theorem dX9_query_16 : decode cX9_query 16 = .ok (.aload_n 0, 1) := by decide +kernel
theorem dX9_query_17 : decode cX9_query 17 = .ok (.getfield 34, 3) := by decide +kernel
theorem dX9_query_20 : decode cX9_query 20 = .ok (.aload_n 0, 1) := by decide +kernel
theorem dX9_query_21 : decode cX9_query 21 = .ok (.getfield 38, 3) := by decide +kernel
theorem dX9_query_24 : decode cX9_query 24 = .ok (.aaload, 1) := by decide +kernel
theorem dX9_query_25 : decode cX9_query 25 = .ok (.invokevirtual 148, 3) := by decide +kernel
theorem dX9_query_28 : decode cX9_query 28 = .ok (.istore_n 1, 1) := by decide +kernel
theorem dX9_query_29 : decode cX9_query 29 = .ok (.aload_n 0, 1) := by decide +kernel
theorem dX9_query_30 : decode cX9_query 30 = .ok (.getfield 28, 3) := by decide +kernel
theorem dX9_query_33 : decode cX9_query 33 = .ok (.iconst 0, 1) := by decide +kernel
theorem dX9_query_34 : decode cX9_query 34 = .ok (.putfield 143, 3) := by decide +kernel
theorem dX9_query_37 : decode cX9_query 37 = .ok (.iload_n 1, 1) := by decide +kernel
theorem dX9_query_38 : decode cX9_query 38 = .ok (.ifCond .lt 8, 3) := by decide +kernel
theorem dX9_query_41 : decode cX9_query 41 = .ok (.bipush (-10), 2) := by decide +kernel
theorem dX9_query_43 : decode cX9_query 43 = .ok (.iload_n 1, 1) := by decide +kernel
theorem dX9_query_44 : decode cX9_query 44 = .ok (.isub, 1) := by decide +kernel
theorem dX9_query_45 : decode cX9_query 45 = .ok (.ireturn, 1) := by decide +kernel
theorem dX9_query_46 : decode cX9_query 46 = .ok (.aload_n 0, 1) := by decide +kernel
theorem dX9_query_47 : decode cX9_query 47 = .ok (.dup, 1) := by decide +kernel
theorem dX9_query_48 : decode cX9_query 48 = .ok (.getfield 38, 3) := by decide +kernel
theorem dX9_query_51 : decode cX9_query 51 = .ok (.iconst 1, 1) := by decide +kernel
theorem dX9_query_52 : decode cX9_query 52 = .ok (.iadd, 1) := by decide +kernel
theorem dX9_query_53 : decode cX9_query 53 = .ok (.putfield 38, 3) := by decide +kernel
theorem dX9_query_56 : decode cX9_query 56 = .ok (.aload_n 0, 1) := by decide +kernel
theorem dX9_query_57 : decode cX9_query 57 = .ok (.getfield 38, 3) := by decide +kernel
theorem dX9_query_60 : decode cX9_query 60 = .ok (.iconst 1, 1) := by decide +kernel
theorem dX9_query_61 : decode cX9_query 61 = .ok (.isub, 1) := by decide +kernel
theorem dX9_query_62 : decode cX9_query 62 = .ok (.ireturn, 1) := by decide +kernel
theorem dX9_of_0 : decode cX9_of 0 = .ok (.aload_n 0, 1) := by decide +kernel
theorem dX9_of_1 : decode cX9_of 1 = .ok (.iload_n 1, 1) := by decide +kernel
theorem dX9_of_2 : decode cX9_of 2 = .ok (.invokevirtual 152, 3) := by decide +kernel
theorem dX9_of_5 : decode cX9_of 5 = .ok (.ifCond .ne 5, 3) := by decide +kernel
theorem dX9_of_8 : decode cX9_of 8 = .ok (.iconst (-1), 1) := by decide +kernel
theorem dX9_of_9 : decode cX9_of 9 = .ok (.ireturn, 1) := by decide +kernel
theorem dX9_of_10 : decode cX9_of 10 = .ok (.aload_n 0, 1) := by decide +kernel
theorem dX9_of_11 : decode cX9_of 11 = .ok (.getfield 51, 3) := by decide +kernel
theorem dX9_of_14 : decode cX9_of 14 = .ok (.aload_n 0, 1) := by decide +kernel
theorem dX9_of_15 : decode cX9_of 15 = .ok (.getfield 34, 3) := by decide +kernel
theorem dX9_of_18 : decode cX9_of 18 = .ok (.iload_n 1, 1) := by decide +kernel
theorem dX9_of_19 : decode cX9_of 19 = .ok (.aaload, 1) := by decide +kernel
theorem dX9_of_20 : decode cX9_of 20 = .ok (.aload_n 0, 1) := by decide +kernel
theorem dX9_of_21 : decode cX9_of 21 = .ok (.getfield 14, 3) := by decide +kernel
theorem dX9_of_24 : decode cX9_of 24 = .ok (.getfield 85, 3) := by decide +kernel
theorem dX9_of_27 : decode cX9_of 27 = .ok (.invokevirtual 155, 3) := by decide +kernel
theorem dX9_of_30 : decode cX9_of 30 = .ok (.aload_n 0, 1) := by decide +kernel
theorem dX9_of_31 : decode cX9_of 31 = .ok (.getfield 51, 3) := by decide +kernel
theorem dX9_of_34 : decode cX9_of 34 = .ok (.invokevirtual 159, 3) := by decide +kernel
theorem dX9_of_37 : decode cX9_of 37 = .ok (.astore_n 3, 1) := by decide +kernel
theorem dX9_of_38 : decode cX9_of 38 = .ok (.aload_n 0, 1) := by decide +kernel
theorem dX9_of_39 : decode cX9_of 39 = .ok (.getfield 14, 3) := by decide +kernel
theorem dX9_of_42 : decode cX9_of 42 = .ok (.getfield 85, 3) := by decide +kernel
theorem dX9_of_45 : decode cX9_of 45 = .ok (.getfield 96, 3) := by decide +kernel
theorem dX9_of_48 : decode cX9_of 48 = .ok (.istore 4, 2) := by decide +kernel
theorem dX9_of_50 : decode cX9_of 50 = .ok (.iload_n 2, 1) := by decide +kernel
theorem dX9_of_51 : decode cX9_of 51 = .ok (.tableswitch 118 0 7 #[45, 50, 57, 65, 73, 86, 98, 110], 45) := by decide +kernel
theorem dX9_of_96 : decode cX9_of 96 = .ok (.aload_n 3, 1) := by decide +kernel
theorem dX9_of_97 : decode cX9_of 97 = .ok (.invokevirtual 163, 3) := by decide +kernel
theorem dX9_of_100 : decode cX9_of 100 = .ok (.ireturn, 1) := by decide +kernel
theorem dX9_of_101 : decode cX9_of 101 = .ok (.aload_n 3, 1) := by decide +kernel
theorem dX9_of_102 : decode cX9_of 102 = .ok (.iload 4, 2) := by decide +kernel
theorem dX9_of_104 : decode cX9_of 104 = .ok (.invokevirtual 130, 3) := by decide +kernel
theorem dX9_of_107 : decode cX9_of 107 = .ok (.ireturn, 1) := by decide +kernel
theorem dX9_of_108 : decode cX9_of 108 = .ok (.aload_n 0, 1) := by decide +kernel
theorem dX9_of_109 : decode cX9_of 109 = .ok (.getfield 51, 3) := by decide +kernel
theorem dX9_of_112 : decode cX9_of 112 = .ok (.invokevirtual 167, 3) := by decide +kernel
theorem dX9_of_115 : decode cX9_of 115 = .ok (.ireturn, 1) := by decide +kernel
theorem dX9_of_116 : decode cX9_of 116 = .ok (.aload_n 3, 1) := by decide +kernel
theorem dX9_of_117 : decode cX9_of 117 = .ok (.iconst 0, 1) := by decide +kernel
theorem dX9_of_118 : decode cX9_of 118 = .ok (.iload 4, 2) := by decide +kernel
theorem dX9_of_120 : decode cX9_of 120 = .ok (.invokevirtual 170, 3) := by decide +kernel
theorem dX9_of_123 : decode cX9_of 123 = .ok (.ireturn, 1) := by decide +kernel
theorem dX9_of_124 : decode cX9_of 124 = .ok (.aload_n 3, 1) := by decide +kernel
theorem dX9_of_125 : decode cX9_of 125 = .ok (.aload_n 3, 1) := by decide +kernel
theorem dX9_of_126 : decode cX9_of 126 = .ok (.invokevirtual 163, 3) := by decide +kernel
theorem dX9_of_129 : decode cX9_of 129 = .ok (.iconst 1, 1) := by decide +kernel
theorem dX9_of_130 : decode cX9_of 130 = .ok (.isub, 1) := by decide +kernel
theorem dX9_of_131 : decode cX9_of 131 = .ok (.iload 4, 2) := by decide +kernel
theorem dX9_of_133 : decode cX9_of 133 = .ok (.invokevirtual 170, 3) := by decide +kernel
theorem dX9_of_136 : decode cX9_of 136 = .ok (.ireturn, 1) := by decide +kernel
theorem dX9_of_137 : decode cX9_of 137 = .ok (.aload_n 0, 1) := by decide +kernel
theorem dX9_of_138 : decode cX9_of 138 = .ok (.getfield 34, 3) := by decide +kernel
theorem dX9_of_141 : decode cX9_of 141 = .ok (.iload_n 1, 1) := by decide +kernel
theorem dX9_of_142 : decode cX9_of 142 = .ok (.aaload, 1) := by decide +kernel
theorem dX9_of_143 : decode cX9_of 143 = .ok (.iconst 0, 1) := by decide +kernel
theorem dX9_of_144 : decode cX9_of 144 = .ok (.iconst 3, 1) := by decide +kernel
theorem dX9_of_145 : decode cX9_of 145 = .ok (.invokevirtual 173, 3) := by decide +kernel
theorem dX9_of_148 : decode cX9_of 148 = .ok (.ireturn, 1) := by decide +kernel
theorem dX9_of_149 : decode cX9_of 149 = .ok (.aload_n 0, 1) := by decide +kernel
theorem dX9_of_150 : decode cX9_of 150 = .ok (.getfield 34, 3) := by decide +kernel
theorem dX9_of_153 : decode cX9_of 153 = .ok (.iload_n 1, 1) := by decide +kernel
theorem dX9_of_154 : decode cX9_of 154 = .ok (.aaload, 1) := by decide +kernel
theorem dX9_of_155 : decode cX9_of 155 = .ok (.iconst 4, 1) := by decide +kernel
theorem dX9_of_156 : decode cX9_of 156 = .ok (.iconst 4, 1) := by decide +kernel
theorem dX9_of_157 : decode cX9_of 157 = .ok (.invokevirtual 173, 3) := by decide +kernel
theorem dX9_of_160 : decode cX9_of 160 = .ok (.ireturn, 1) := by decide +kernel
theorem dX9_of_161 : decode cX9_of 161 = .ok (.aload_n 0, 1) := by decide +kernel
theorem dX9_of_162 : decode cX9_of 162 = .ok (.getfield 51, 3) := by decide +kernel
theorem dX9_of_165 : decode cX9_of 165 = .ok (.invokevirtual 176, 3) := by decide +kernel
theorem dX9_of_168 : decode cX9_of 168 = .ok (.ireturn, 1) := by decide +kernel
theorem dX9_of_169 : decode cX9_of 169 = .ok (.iconst (-1), 1) := by decide +kernel
theorem dX9_of_170 : decode cX9_of 170 = .ok (.ireturn, 1) := by decide +kernel
theorem dX9_row_0 : decode cX9_row 0 = .ok (.aload_n 0, 1) := by decide +kernel
theorem dX9_row_1 : decode cX9_row 1 = .ok (.iload_n 1, 1) := by decide +kernel
theorem dX9_row_2 : decode cX9_row 2 = .ok (.invokevirtual 152, 3) := by decide +kernel
theorem dX9_row_5 : decode cX9_row 5 = .ok (.ifCond .eq 7, 3) := by decide +kernel
theorem dX9_row_8 : decode cX9_row 8 = .ok (.iload_n 2, 1) := by decide +kernel
theorem dX9_row_9 : decode cX9_row 9 = .ok (.ifCond .ge 5, 3) := by decide +kernel
theorem dX9_row_12 : decode cX9_row 12 = .ok (.iconst (-1), 1) := by decide +kernel
theorem dX9_row_13 : decode cX9_row 13 = .ok (.ireturn, 1) := by decide +kernel
theorem dX9_row_14 : decode cX9_row 14 = .ok (.aload_n 0, 1) := by decide +kernel
theorem dX9_row_15 : decode cX9_row 15 = .ok (.iload_n 1, 1) := by decide +kernel
theorem dX9_row_16 : decode cX9_row 16 = .ok (.invokevirtual 179, 3) := by decide +kernel
theorem dX9_row_19 : decode cX9_row 19 = .ok (.iload_n 2, 1) := by decide +kernel
theorem dX9_row_20 : decode cX9_row 20 = .ok (.aload_n 0, 1) := by decide +kernel
theorem dX9_row_21 : decode cX9_row 21 = .ok (.getfield 14, 3) := by decide +kernel
theorem dX9_row_24 : decode cX9_row 24 = .ok (.getfield 85, 3) := by decide +kernel
theorem dX9_row_27 : decode cX9_row 27 = .ok (.getfield 96, 3) := by decide +kernel
theorem dX9_row_30 : decode cX9_row 30 = .ok (.invokevirtual 170, 3) := by decide +kernel
theorem dX9_row_33 : decode cX9_row 33 = .ok (.ireturn, 1) := by decide +kernel
theorem dX9_group_0 : decode cX9_group 0 = .ok (.aload_n 0, 1) := by decide +kernel
theorem dX9_group_1 : decode cX9_group 1 = .ok (.iload_n 1, 1) := by decide +kernel
theorem dX9_group_2 : decode cX9_group 2 = .ok (.invokevirtual 152, 3) := by decide +kernel
theorem dX9_group_5 : decode cX9_group 5 = .ok (.ifCond .eq 17, 3) := by decide +kernel
theorem dX9_group_8 : decode cX9_group 8 = .ok (.iload_n 2, 1) := by decide +kernel
theorem dX9_group_9 : decode cX9_group 9 = .ok (.invokestatic 102, 3) := by decide +kernel
theorem dX9_group_12 : decode cX9_group 12 = .ok (.ifCond .eq 10, 3) := by decide +kernel
theorem dX9_group_15 : decode cX9_group 15 = .ok (.iload_n 3, 1) := by decide +kernel
theorem dX9_group_16 : decode cX9_group 16 = .ok (.invokestatic 81, 3) := by decide +kernel
theorem dX9_group_19 : decode cX9_group 19 = .ok (.ifCond .ne 5, 3) := by decide +kernel
theorem dX9_group_22 : decode cX9_group 22 = .ok (.iconst (-1), 1) := by decide +kernel
theorem dX9_group_23 : decode cX9_group 23 = .ok (.ireturn, 1) := by decide +kernel
theorem dX9_group_24 : decode cX9_group 24 = .ok (.aload_n 0, 1) := by decide +kernel
theorem dX9_group_25 : decode cX9_group 25 = .ok (.getfield 68, 3) := by decide +kernel
theorem dX9_group_28 : decode cX9_group 28 = .ok (.aload_n 0, 1) := by decide +kernel
theorem dX9_group_29 : decode cX9_group 29 = .ok (.iload_n 1, 1) := by decide +kernel
theorem dX9_group_30 : decode cX9_group 30 = .ok (.invokevirtual 179, 3) := by decide +kernel
theorem dX9_group_33 : decode cX9_group 33 = .ok (.aload_n 0, 1) := by decide +kernel
theorem dX9_group_34 : decode cX9_group 34 = .ok (.getfield 14, 3) := by decide +kernel
theorem dX9_group_37 : decode cX9_group 37 = .ok (.getfield 85, 3) := by decide +kernel
theorem dX9_group_40 : decode cX9_group 40 = .ok (.iload_n 2, 1) := by decide +kernel
theorem dX9_group_41 : decode cX9_group 41 = .ok (.invokevirtual 183, 3) := by decide +kernel
theorem dX9_group_44 : decode cX9_group 44 = .ok (.aload_n 0, 1) := by decide +kernel
theorem dX9_group_45 : decode cX9_group 45 = .ok (.getfield 68, 3) := by decide +kernel
theorem dX9_group_48 : decode cX9_group 48 = .ok (.getfield 187, 3) := by decide +kernel
theorem dX9_group_51 : decode cX9_group 51 = .ok (.iload_n 3, 1) := by decide +kernel
theorem dX9_group_52 : decode cX9_group 52 = .ok (.iaload, 1) := by decide +kernel
theorem dX9_group_53 : decode cX9_group 53 = .ok (.ireturn, 1) := by decide +kernel
theorem dX9_edge_0 : decode cX9_edge 0 = .ok (.aload_n 0, 1) := by decide +kernel
theorem dX9_edge_1 : decode cX9_edge 1 = .ok (.iload_n 1, 1) := by decide +kernel
theorem dX9_edge_2 : decode cX9_edge 2 = .ok (.invokevirtual 152, 3) := by decide +kernel
theorem dX9_edge_5 : decode cX9_edge 5 = .ok (.ifCond .eq 10, 3) := by decide +kernel
theorem dX9_edge_8 : decode cX9_edge 8 = .ok (.iload_n 2, 1) := by decide +kernel
theorem dX9_edge_9 : decode cX9_edge 9 = .ok (.invokestatic 102, 3) := by decide +kernel
theorem dX9_edge_12 : decode cX9_edge 12 = .ok (.ifCond .ne 5, 3) := by decide +kernel
theorem dX9_edge_15 : decode cX9_edge 15 = .ok (.iconst (-1), 1) := by decide +kernel
theorem dX9_edge_16 : decode cX9_edge 16 = .ok (.ireturn, 1) := by decide +kernel
theorem dX9_edge_17 : decode cX9_edge 17 = .ok (.aload_n 0, 1) := by decide +kernel
theorem dX9_edge_18 : decode cX9_edge 18 = .ok (.getfield 68, 3) := by decide +kernel
theorem dX9_edge_21 : decode cX9_edge 21 = .ok (.aload_n 0, 1) := by decide +kernel
theorem dX9_edge_22 : decode cX9_edge 22 = .ok (.iload_n 1, 1) := by decide +kernel
theorem dX9_edge_23 : decode cX9_edge 23 = .ok (.invokevirtual 179, 3) := by decide +kernel
theorem dX9_edge_26 : decode cX9_edge 26 = .ok (.aload_n 0, 1) := by decide +kernel
theorem dX9_edge_27 : decode cX9_edge 27 = .ok (.getfield 14, 3) := by decide +kernel
theorem dX9_edge_30 : decode cX9_edge 30 = .ok (.getfield 85, 3) := by decide +kernel
theorem dX9_edge_33 : decode cX9_edge 33 = .ok (.iload_n 2, 1) := by decide +kernel
theorem dX9_edge_34 : decode cX9_edge 34 = .ok (.invokevirtual 183, 3) := by decide +kernel
theorem dX9_edge_37 : decode cX9_edge 37 = .ok (.iload_n 3, 1) := by decide +kernel
theorem dX9_edge_38 : decode cX9_edge 38 = .ok (.tableswitch 74 0 4 #[34, 42, 50, 58, 66], 34) := by decide +kernel
theorem dX9_edge_72 : decode cX9_edge 72 = .ok (.aload_n 0, 1) := by decide +kernel
theorem dX9_edge_73 : decode cX9_edge 73 = .ok (.getfield 68, 3) := by decide +kernel
theorem dX9_edge_76 : decode cX9_edge 76 = .ok (.invokevirtual 190, 3) := by decide +kernel
theorem dX9_edge_79 : decode cX9_edge 79 = .ok (.ireturn, 1) := by decide +kernel
theorem dX9_edge_80 : decode cX9_edge 80 = .ok (.aload_n 0, 1) := by decide +kernel
theorem dX9_edge_81 : decode cX9_edge 81 = .ok (.getfield 68, 3) := by decide +kernel
theorem dX9_edge_84 : decode cX9_edge 84 = .ok (.invokevirtual 193, 3) := by decide +kernel
theorem dX9_edge_87 : decode cX9_edge 87 = .ok (.ireturn, 1) := by decide +kernel
theorem dX9_edge_88 : decode cX9_edge 88 = .ok (.aload_n 0, 1) := by decide +kernel
theorem dX9_edge_89 : decode cX9_edge 89 = .ok (.getfield 68, 3) := by decide +kernel
theorem dX9_edge_92 : decode cX9_edge 92 = .ok (.invokevirtual 196, 3) := by decide +kernel
theorem dX9_edge_95 : decode cX9_edge 95 = .ok (.ireturn, 1) := by decide +kernel
theorem dX9_edge_96 : decode cX9_edge 96 = .ok (.aload_n 0, 1) := by decide +kernel
theorem dX9_edge_97 : decode cX9_edge 97 = .ok (.getfield 68, 3) := by decide +kernel
theorem dX9_edge_100 : decode cX9_edge 100 = .ok (.invokevirtual 199, 3) := by decide +kernel
theorem dX9_edge_103 : decode cX9_edge 103 = .ok (.ireturn, 1) := by decide +kernel
theorem dX9_edge_104 : decode cX9_edge 104 = .ok (.aload_n 0, 1) := by decide +kernel
theorem dX9_edge_105 : decode cX9_edge 105 = .ok (.getfield 68, 3) := by decide +kernel
theorem dX9_edge_108 : decode cX9_edge 108 = .ok (.invokevirtual 202, 3) := by decide +kernel
theorem dX9_edge_111 : decode cX9_edge 111 = .ok (.ireturn, 1) := by decide +kernel
theorem dX9_edge_112 : decode cX9_edge 112 = .ok (.iconst (-1), 1) := by decide +kernel
theorem dX9_edge_113 : decode cX9_edge 113 = .ok (.ireturn, 1) := by decide +kernel
theorem dX9_two_0 : decode cX9_two 0 = .ok (.aload_n 0, 1) := by decide +kernel
theorem dX9_two_1 : decode cX9_two 1 = .ok (.iload_n 1, 1) := by decide +kernel
theorem dX9_two_2 : decode cX9_two 2 = .ok (.invokevirtual 152, 3) := by decide +kernel
theorem dX9_two_5 : decode cX9_two 5 = .ok (.ifCond .eq 11, 3) := by decide +kernel
theorem dX9_two_8 : decode cX9_two 8 = .ok (.aload_n 0, 1) := by decide +kernel
theorem dX9_two_9 : decode cX9_two 9 = .ok (.iload_n 2, 1) := by decide +kernel
theorem dX9_two_10 : decode cX9_two 10 = .ok (.invokevirtual 152, 3) := by decide +kernel
theorem dX9_two_13 : decode cX9_two 13 = .ok (.ifCond .ne 5, 3) := by decide +kernel
theorem dX9_two_16 : decode cX9_two 16 = .ok (.iconst (-1), 1) := by decide +kernel
theorem dX9_two_17 : decode cX9_two 17 = .ok (.ireturn, 1) := by decide +kernel
theorem dX9_two_18 : decode cX9_two 18 = .ok (.aload_n 0, 1) := by decide +kernel
theorem dX9_two_19 : decode cX9_two 19 = .ok (.getfield 55, 3) := by decide +kernel
theorem dX9_two_22 : decode cX9_two 22 = .ok (.aload_n 0, 1) := by decide +kernel
theorem dX9_two_23 : decode cX9_two 23 = .ok (.getfield 34, 3) := by decide +kernel
theorem dX9_two_26 : decode cX9_two 26 = .ok (.iload_n 2, 1) := by decide +kernel
theorem dX9_two_27 : decode cX9_two 27 = .ok (.aaload, 1) := by decide +kernel
theorem dX9_two_28 : decode cX9_two 28 = .ok (.aload_n 0, 1) := by decide +kernel
theorem dX9_two_29 : decode cX9_two 29 = .ok (.getfield 14, 3) := by decide +kernel
theorem dX9_two_32 : decode cX9_two 32 = .ok (.getfield 85, 3) := by decide +kernel
theorem dX9_two_35 : decode cX9_two 35 = .ok (.invokevirtual 155, 3) := by decide +kernel
theorem dX9_two_38 : decode cX9_two 38 = .ok (.aload_n 0, 1) := by decide +kernel
theorem dX9_two_39 : decode cX9_two 39 = .ok (.iload_n 1, 1) := by decide +kernel
theorem dX9_two_40 : decode cX9_two 40 = .ok (.invokevirtual 179, 3) := by decide +kernel
theorem dX9_two_43 : decode cX9_two 43 = .ok (.astore 4, 2) := by decide +kernel
theorem dX9_two_45 : decode cX9_two 45 = .ok (.aload_n 0, 1) := by decide +kernel
theorem dX9_two_46 : decode cX9_two 46 = .ok (.getfield 55, 3) := by decide +kernel
theorem dX9_two_49 : decode cX9_two 49 = .ok (.invokevirtual 159, 3) := by decide +kernel
theorem dX9_two_52 : decode cX9_two 52 = .ok (.astore 5, 2) := by decide +kernel
theorem dX9_two_54 : decode cX9_two 54 = .ok (.aload_n 0, 1) := by decide +kernel
theorem dX9_two_55 : decode cX9_two 55 = .ok (.getfield 61, 3) := by decide +kernel
theorem dX9_two_58 : decode cX9_two 58 = .ok (.aload 4, 2) := by decide +kernel
theorem dX9_two_60 : decode cX9_two 60 = .ok (.invokevirtual 205, 3) := by decide +kernel
theorem dX9_two_63 : decode cX9_two 63 = .ok (.aload_n 0, 1) := by decide +kernel
theorem dX9_two_64 : decode cX9_two 64 = .ok (.getfield 61, 3) := by decide +kernel
theorem dX9_two_67 : decode cX9_two 67 = .ok (.aload 5, 2) := by decide +kernel
theorem dX9_two_69 : decode cX9_two 69 = .ok (.invokevirtual 209, 3) := by decide +kernel
theorem dX9_two_72 : decode cX9_two 72 = .ok (.aload_n 0, 1) := by decide +kernel
theorem dX9_two_73 : decode cX9_two 73 = .ok (.getfield 61, 3) := by decide +kernel
theorem dX9_two_76 : decode cX9_two 76 = .ok (.invokevirtual 163, 3) := by decide +kernel
theorem dX9_two_79 : decode cX9_two 79 = .ok (.istore 6, 2) := by decide +kernel
theorem dX9_two_81 : decode cX9_two 81 = .ok (.aload 4, 2) := by decide +kernel
theorem dX9_two_83 : decode cX9_two 83 = .ok (.invokevirtual 163, 3) := by decide +kernel
theorem dX9_two_86 : decode cX9_two 86 = .ok (.istore 7, 2) := by decide +kernel
theorem dX9_two_88 : decode cX9_two 88 = .ok (.aload 5, 2) := by decide +kernel
theorem dX9_two_90 : decode cX9_two 90 = .ok (.invokevirtual 163, 3) := by decide +kernel
theorem dX9_two_93 : decode cX9_two 93 = .ok (.istore 8, 2) := by decide +kernel
theorem dX9_two_95 : decode cX9_two 95 = .ok (.iload_n 3, 1) := by decide +kernel
theorem dX9_two_96 : decode cX9_two 96 = .ok (.tableswitch 87 0 4 #[36, 39, 48, 54, 74], 36) := by decide +kernel
theorem dX9_two_132 : decode cX9_two 132 = .ok (.iload 6, 2) := by decide +kernel
theorem dX9_two_134 : decode cX9_two 134 = .ok (.ireturn, 1) := by decide +kernel
theorem dX9_two_135 : decode cX9_two 135 = .ok (.iload 7, 2) := by decide +kernel
theorem dX9_two_137 : decode cX9_two 137 = .ok (.iload 8, 2) := by decide +kernel
theorem dX9_two_139 : decode cX9_two 139 = .ok (.iadd, 1) := by decide +kernel
theorem dX9_two_140 : decode cX9_two 140 = .ok (.iload 6, 2) := by decide +kernel
theorem dX9_two_142 : decode cX9_two 142 = .ok (.isub, 1) := by decide +kernel
theorem dX9_two_143 : decode cX9_two 143 = .ok (.ireturn, 1) := by decide +kernel
theorem dX9_two_144 : decode cX9_two 144 = .ok (.iload 7, 2) := by decide +kernel
theorem dX9_two_146 : decode cX9_two 146 = .ok (.iload 6, 2) := by decide +kernel
theorem dX9_two_148 : decode cX9_two 148 = .ok (.isub, 1) := by decide +kernel
theorem dX9_two_149 : decode cX9_two 149 = .ok (.ireturn, 1) := by decide +kernel
theorem dX9_two_150 : decode cX9_two 150 = .ok (.iload 7, 2) := by decide +kernel
theorem dX9_two_152 : decode cX9_two 152 = .ok (.iload 6, 2) := by decide +kernel
theorem dX9_two_154 : decode cX9_two 154 = .ok (.if_icmp .ne 14, 3) := by decide +kernel
theorem dX9_two_157 : decode cX9_two 157 = .ok (.iload 8, 2) := by decide +kernel
theorem dX9_two_159 : decode cX9_two 159 = .ok (.iload 6, 2) := by decide +kernel
theorem dX9_two_161 : decode cX9_two 161 = .ok (.if_icmp .ne 7, 3) := by decide +kernel
theorem dX9_two_164 : decode cX9_two 164 = .ok (.iconst 1, 1) := by decide +kernel
theorem dX9_two_165 : decode cX9_two 165 = .ok (.goto 4, 3) := by decide +kernel
theorem dX9_two_168 : decode cX9_two 168 = .ok (.iconst 0, 1) := by decide +kernel
theorem dX9_two_169 : decode cX9_two 169 = .ok (.ireturn, 1) := by decide +kernel
theorem dX9_two_170 : decode cX9_two 170 = .ok (.iload 7, 2) := by decide +kernel
theorem dX9_two_172 : decode cX9_two 172 = .ok (.iload 6, 2) := by decide +kernel
theorem dX9_two_174 : decode cX9_two 174 = .ok (.if_icmp .ne 7, 3) := by decide +kernel
theorem dX9_two_177 : decode cX9_two 177 = .ok (.iconst 1, 1) := by decide +kernel
theorem dX9_two_178 : decode cX9_two 178 = .ok (.goto 4, 3) := by decide +kernel
theorem dX9_two_181 : decode cX9_two 181 = .ok (.iconst 0, 1) := by decide +kernel
theorem dX9_two_182 : decode cX9_two 182 = .ok (.ireturn, 1) := by decide +kernel
theorem dX9_two_183 : decode cX9_two 183 = .ok (.iconst (-1), 1) := by decide +kernel
theorem dX9_two_184 : decode cX9_two 184 = .ok (.ireturn, 1) := by decide +kernel
theorem dX9_see_0 : decode cX9_see 0 = .ok (.iload_n 1, 1) := by decide +kernel
theorem dX9_see_1 : decode cX9_see 1 = .ok (.iconst (-1), 1) := by decide +kernel
theorem dX9_see_2 : decode cX9_see 2 = .ok (.if_icmp .ne 16, 3) := by decide +kernel
theorem dX9_see_5 : decode cX9_see 5 = .ok (.aload_n 0, 1) := by decide +kernel
theorem dX9_see_6 : decode cX9_see 6 = .ok (.getfield 14, 3) := by decide +kernel
theorem dX9_see_9 : decode cX9_see 9 = .ok (.getfield 212, 3) := by decide +kernel
theorem dX9_see_12 : decode cX9_see 12 = .ok (.iconst 0, 1) := by decide +kernel
theorem dX9_see_13 : decode cX9_see 13 = .ok (.putfield 216, 3) := by decide +kernel
theorem dX9_see_16 : decode cX9_see 16 = .ok (.iconst 0, 1) := by decide +kernel
theorem dX9_see_17 : decode cX9_see 17 = .ok (.ireturn, 1) := by decide +kernel
theorem dX9_see_18 : decode cX9_see 18 = .ok (.aload_n 0, 1) := by decide +kernel
theorem dX9_see_19 : decode cX9_see 19 = .ok (.getfield 14, 3) := by decide +kernel
theorem dX9_see_22 : decode cX9_see 22 = .ok (.getfield 85, 3) := by decide +kernel
theorem dX9_see_25 : decode cX9_see 25 = .ok (.iload_n 1, 1) := by decide +kernel
theorem dX9_see_26 : decode cX9_see 26 = .ok (.invokevirtual 99, 3) := by decide +kernel
theorem dX9_see_29 : decode cX9_see 29 = .ok (.ifCond .ne 5, 3) := by decide +kernel
theorem dX9_see_32 : decode cX9_see 32 = .ok (.iconst (-1), 1) := by decide +kernel
theorem dX9_see_33 : decode cX9_see 33 = .ok (.ireturn, 1) := by decide +kernel
theorem dX9_see_34 : decode cX9_see 34 = .ok (.aload_n 0, 1) := by decide +kernel
theorem dX9_see_35 : decode cX9_see 35 = .ok (.getfield 14, 3) := by decide +kernel
theorem dX9_see_38 : decode cX9_see 38 = .ok (.getfield 212, 3) := by decide +kernel
theorem dX9_see_41 : decode cX9_see 41 = .ok (.iload_n 1, 1) := by decide +kernel
theorem dX9_see_42 : decode cX9_see 42 = .ok (.iload_n 2, 1) := by decide +kernel
theorem dX9_see_43 : decode cX9_see 43 = .ok (.ifCond .eq 7, 3) := by decide +kernel
theorem dX9_see_46 : decode cX9_see 46 = .ok (.iconst 1, 1) := by decide +kernel
theorem dX9_see_47 : decode cX9_see 47 = .ok (.goto 4, 3) := by decide +kernel
theorem dX9_see_50 : decode cX9_see 50 = .ok (.iconst 0, 1) := by decide +kernel
theorem dX9_see_51 : decode cX9_see 51 = .ok (.invokevirtual 219, 3) := by decide +kernel
theorem dX9_see_54 : decode cX9_see 54 = .ok (.ireturn, 1) := by decide +kernel
theorem dX9_bounds_0 : decode cX9_bounds 0 = .ok (.iload_n 1, 1) := by decide +kernel
theorem dX9_bounds_1 : decode cX9_bounds 1 = .ok (.invokestatic 102, 3) := by decide +kernel
theorem dX9_bounds_4 : decode cX9_bounds 4 = .ok (.ifCond .eq 12, 3) := by decide +kernel
theorem dX9_bounds_7 : decode cX9_bounds 7 = .ok (.iload_n 2, 1) := by decide +kernel
theorem dX9_bounds_8 : decode cX9_bounds 8 = .ok (.ifCond .lt 8, 3) := by decide +kernel
theorem dX9_bounds_11 : decode cX9_bounds 11 = .ok (.iload_n 2, 1) := by decide +kernel
theorem dX9_bounds_12 : decode cX9_bounds 12 = .ok (.iconst 1, 1) := by decide +kernel
theorem dX9_bounds_13 : decode cX9_bounds 13 = .ok (.if_icmp .le 5, 3) := by decide +kernel
theorem dX9_bounds_16 : decode cX9_bounds 16 = .ok (.iconst (-1), 1) := by decide +kernel
theorem dX9_bounds_17 : decode cX9_bounds 17 = .ok (.ireturn, 1) := by decide +kernel
theorem dX9_bounds_18 : decode cX9_bounds 18 = .ok (.bipush (-5), 2) := by decide +kernel
theorem dX9_bounds_20 : decode cX9_bounds 20 = .ok (.istore_n 3, 1) := by decide +kernel
theorem dX9_bounds_21 : decode cX9_bounds 21 = .ok (.iconst 0, 1) := by decide +kernel
theorem dX9_bounds_22 : decode cX9_bounds 22 = .ok (.istore 4, 2) := by decide +kernel
theorem dX9_bounds_24 : decode cX9_bounds 24 = .ok (.bipush 15, 2) := by decide +kernel
theorem dX9_bounds_26 : decode cX9_bounds 26 = .ok (.istore 5, 2) := by decide +kernel
theorem dX9_bounds_28 : decode cX9_bounds 28 = .ok (.iload 5, 2) := by decide +kernel
theorem dX9_bounds_30 : decode cX9_bounds 30 = .ok (.ifCond .lt 28, 3) := by decide +kernel
theorem dX9_bounds_33 : decode cX9_bounds 33 = .ok (.aload_n 0, 1) := by decide +kernel
theorem dX9_bounds_34 : decode cX9_bounds 34 = .ok (.getfield 14, 3) := by decide +kernel
theorem dX9_bounds_37 : decode cX9_bounds 37 = .ok (.iload_n 1, 1) := by decide +kernel
theorem dX9_bounds_38 : decode cX9_bounds 38 = .ok (.iload 5, 2) := by decide +kernel
theorem dX9_bounds_40 : decode cX9_bounds 40 = .ok (.invokevirtual 221, 3) := by decide +kernel
theorem dX9_bounds_43 : decode cX9_bounds 43 = .ok (.ifCond .eq 9, 3) := by decide +kernel
theorem dX9_bounds_46 : decode cX9_bounds 46 = .ok (.iload 5, 2) := by decide +kernel
theorem dX9_bounds_48 : decode cX9_bounds 48 = .ok (.istore_n 3, 1) := by decide +kernel
theorem dX9_bounds_49 : decode cX9_bounds 49 = .ok (.iinc 4 1, 3) := by decide +kernel
theorem dX9_bounds_52 : decode cX9_bounds 52 = .ok (.iinc 5 (-1), 3) := by decide +kernel
theorem dX9_bounds_55 : decode cX9_bounds 55 = .ok (.goto (-27), 3) := by decide +kernel
theorem dX9_bounds_58 : decode cX9_bounds 58 = .ok (.iload_n 2, 1) := by decide +kernel
theorem dX9_bounds_59 : decode cX9_bounds 59 = .ok (.ifCond .ne 8, 3) := by decide +kernel
theorem dX9_bounds_62 : decode cX9_bounds 62 = .ok (.iload 4, 2) := by decide +kernel
theorem dX9_bounds_64 : decode cX9_bounds 64 = .ok (.goto 4, 3) := by decide +kernel
theorem dX9_bounds_67 : decode cX9_bounds 67 = .ok (.iload_n 3, 1) := by decide +kernel
theorem dX9_bounds_68 : decode cX9_bounds 68 = .ok (.ireturn, 1) := by decide +kernel
theorem dX9_odds_0 : decode cX9_odds 0 = .ok (.aload_n 0, 1) := by decide +kernel
theorem dX9_odds_1 : decode cX9_odds 1 = .ok (.iload_n 1, 1) := by decide +kernel
theorem dX9_odds_2 : decode cX9_odds 2 = .ok (.invokevirtual 152, 3) := by decide +kernel
theorem dX9_odds_5 : decode cX9_odds 5 = .ok (.ifCond .eq 10, 3) := by decide +kernel
theorem dX9_odds_8 : decode cX9_odds 8 = .ok (.iload_n 2, 1) := by decide +kernel
theorem dX9_odds_9 : decode cX9_odds 9 = .ok (.invokestatic 225, 3) := by decide +kernel
theorem dX9_odds_12 : decode cX9_odds 12 = .ok (.ifCond .ne 7, 3) := by decide +kernel
theorem dX9_odds_15 : decode cX9_odds 15 = .ok (.ldc2_w 228, 3) := by decide +kernel
theorem dX9_odds_18 : decode cX9_odds 18 = .ok (.lreturn, 1) := by decide +kernel
theorem dX9_odds_19 : decode cX9_odds 19 = .ok (.aload_n 0, 1) := by decide +kernel
theorem dX9_odds_20 : decode cX9_odds 20 = .ok (.iload_n 1, 1) := by decide +kernel
theorem dX9_odds_21 : decode cX9_odds 21 = .ok (.invokevirtual 179, 3) := by decide +kernel
theorem dX9_odds_24 : decode cX9_odds 24 = .ok (.invokevirtual 163, 3) := by decide +kernel
theorem dX9_odds_27 : decode cX9_odds 27 = .ok (.aload_n 0, 1) := by decide +kernel
theorem dX9_odds_28 : decode cX9_odds 28 = .ok (.getfield 14, 3) := by decide +kernel
theorem dX9_odds_31 : decode cX9_odds 31 = .ok (.getfield 85, 3) := by decide +kernel
theorem dX9_odds_34 : decode cX9_odds 34 = .ok (.getfield 96, 3) := by decide +kernel
theorem dX9_odds_37 : decode cX9_odds 37 = .ok (.iload_n 2, 1) := by decide +kernel
theorem dX9_odds_38 : decode cX9_odds 38 = .ok (.invokestatic 230, 3) := by decide +kernel
theorem dX9_odds_41 : decode cX9_odds 41 = .ok (.lreturn, 1) := by decide +kernel
theorem dX9_mean_0 : decode cX9_mean 0 = .ok (.aload_n 0, 1) := by decide +kernel
theorem dX9_mean_1 : decode cX9_mean 1 = .ok (.iload_n 1, 1) := by decide +kernel
theorem dX9_mean_2 : decode cX9_mean 2 = .ok (.invokevirtual 152, 3) := by decide +kernel
theorem dX9_mean_5 : decode cX9_mean 5 = .ok (.ifCond .eq 17, 3) := by decide +kernel
theorem dX9_mean_8 : decode cX9_mean 8 = .ok (.iload_n 2, 1) := by decide +kernel
theorem dX9_mean_9 : decode cX9_mean 9 = .ok (.invokestatic 102, 3) := by decide +kernel
theorem dX9_mean_12 : decode cX9_mean 12 = .ok (.ifCond .eq 10, 3) := by decide +kernel
theorem dX9_mean_15 : decode cX9_mean 15 = .ok (.iload_n 3, 1) := by decide +kernel
theorem dX9_mean_16 : decode cX9_mean 16 = .ok (.invokestatic 225, 3) := by decide +kernel
theorem dX9_mean_19 : decode cX9_mean 19 = .ok (.ifCond .ne 7, 3) := by decide +kernel
theorem dX9_mean_22 : decode cX9_mean 22 = .ok (.ldc2_w 228, 3) := by decide +kernel
theorem dX9_mean_25 : decode cX9_mean 25 = .ok (.lreturn, 1) := by decide +kernel
theorem dX9_mean_26 : decode cX9_mean 26 = .ok (.aload_n 0, 1) := by decide +kernel
theorem dX9_mean_27 : decode cX9_mean 27 = .ok (.getfield 68, 3) := by decide +kernel
theorem dX9_mean_30 : decode cX9_mean 30 = .ok (.aload_n 0, 1) := by decide +kernel
theorem dX9_mean_31 : decode cX9_mean 31 = .ok (.iload_n 1, 1) := by decide +kernel
theorem dX9_mean_32 : decode cX9_mean 32 = .ok (.invokevirtual 179, 3) := by decide +kernel
theorem dX9_mean_35 : decode cX9_mean 35 = .ok (.aload_n 0, 1) := by decide +kernel
theorem dX9_mean_36 : decode cX9_mean 36 = .ok (.getfield 14, 3) := by decide +kernel
theorem dX9_mean_39 : decode cX9_mean 39 = .ok (.getfield 85, 3) := by decide +kernel
theorem dX9_mean_42 : decode cX9_mean 42 = .ok (.iload_n 2, 1) := by decide +kernel
theorem dX9_mean_43 : decode cX9_mean 43 = .ok (.invokevirtual 183, 3) := by decide +kernel
theorem dX9_mean_46 : decode cX9_mean 46 = .ok (.aload_n 0, 1) := by decide +kernel
theorem dX9_mean_47 : decode cX9_mean 47 = .ok (.getfield 68, 3) := by decide +kernel
theorem dX9_mean_50 : decode cX9_mean 50 = .ok (.invokevirtual 234, 3) := by decide +kernel
theorem dX9_mean_53 : decode cX9_mean 53 = .ok (.aload_n 0, 1) := by decide +kernel
theorem dX9_mean_54 : decode cX9_mean 54 = .ok (.getfield 68, 3) := by decide +kernel
theorem dX9_mean_57 : decode cX9_mean 57 = .ok (.getfield 237, 3) := by decide +kernel
theorem dX9_mean_60 : decode cX9_mean 60 = .ok (.iload_n 3, 1) := by decide +kernel
theorem dX9_mean_61 : decode cX9_mean 61 = .ok (.invokestatic 230, 3) := by decide +kernel
theorem dX9_mean_64 : decode cX9_mean 64 = .ok (.lreturn, 1) := by decide +kernel
theorem dX9_plan_0 : decode cX9_plan 0 = .ok (.iload_n 1, 1) := by decide +kernel
theorem dX9_plan_1 : decode cX9_plan 1 = .ok (.iconst (-1), 1) := by decide +kernel
theorem dX9_plan_2 : decode cX9_plan 2 = .ok (.if_icmp .ne 16, 3) := by decide +kernel
theorem dX9_plan_5 : decode cX9_plan 5 = .ok (.aload_n 0, 1) := by decide +kernel
theorem dX9_plan_6 : decode cX9_plan 6 = .ok (.getfield 14, 3) := by decide +kernel
theorem dX9_plan_9 : decode cX9_plan 9 = .ok (.getfield 240, 3) := by decide +kernel
theorem dX9_plan_12 : decode cX9_plan 12 = .ok (.iconst 0, 1) := by decide +kernel
theorem dX9_plan_13 : decode cX9_plan 13 = .ok (.putfield 216, 3) := by decide +kernel
theorem dX9_plan_16 : decode cX9_plan 16 = .ok (.iconst 0, 1) := by decide +kernel
theorem dX9_plan_17 : decode cX9_plan 17 = .ok (.ireturn, 1) := by decide +kernel
theorem dX9_plan_18 : decode cX9_plan 18 = .ok (.iload_n 1, 1) := by decide +kernel
theorem dX9_plan_19 : decode cX9_plan 19 = .ok (.ifCond .lt 8, 3) := by decide +kernel
theorem dX9_plan_22 : decode cX9_plan 22 = .ok (.iload_n 1, 1) := by decide +kernel
theorem dX9_plan_23 : decode cX9_plan 23 = .ok (.iconst 2, 1) := by decide +kernel
theorem dX9_plan_24 : decode cX9_plan 24 = .ok (.if_icmp .le 5, 3) := by decide +kernel
theorem dX9_plan_27 : decode cX9_plan 27 = .ok (.iconst (-1), 1) := by decide +kernel
theorem dX9_plan_28 : decode cX9_plan 28 = .ok (.ireturn, 1) := by decide +kernel
theorem dX9_plan_29 : decode cX9_plan 29 = .ok (.iload_n 1, 1) := by decide +kernel
theorem dX9_plan_30 : decode cX9_plan 30 = .ok (.iconst 1, 1) := by decide +kernel
theorem dX9_plan_31 : decode cX9_plan 31 = .ok (.if_icmp .ne 19, 3) := by decide +kernel
theorem dX9_plan_34 : decode cX9_plan 34 = .ok (.aload_n 0, 1) := by decide +kernel
theorem dX9_plan_35 : decode cX9_plan 35 = .ok (.getfield 14, 3) := by decide +kernel
theorem dX9_plan_38 : decode cX9_plan 38 = .ok (.getfield 85, 3) := by decide +kernel
theorem dX9_plan_41 : decode cX9_plan 41 = .ok (.iload_n 2, 1) := by decide +kernel
theorem dX9_plan_42 : decode cX9_plan 42 = .ok (.invokevirtual 99, 3) := by decide +kernel
theorem dX9_plan_45 : decode cX9_plan 45 = .ok (.ifCond .ne 5, 3) := by decide +kernel
theorem dX9_plan_48 : decode cX9_plan 48 = .ok (.iconst (-1), 1) := by decide +kernel
theorem dX9_plan_49 : decode cX9_plan 49 = .ok (.ireturn, 1) := by decide +kernel
theorem dX9_plan_50 : decode cX9_plan 50 = .ok (.iload_n 1, 1) := by decide +kernel
theorem dX9_plan_51 : decode cX9_plan 51 = .ok (.iconst 2, 1) := by decide +kernel
theorem dX9_plan_52 : decode cX9_plan 52 = .ok (.if_icmp .ne 16, 3) := by decide +kernel
theorem dX9_plan_55 : decode cX9_plan 55 = .ok (.aload_n 0, 1) := by decide +kernel
theorem dX9_plan_56 : decode cX9_plan 56 = .ok (.getfield 14, 3) := by decide +kernel
theorem dX9_plan_59 : decode cX9_plan 59 = .ok (.iload_n 2, 1) := by decide +kernel
theorem dX9_plan_60 : decode cX9_plan 60 = .ok (.invokevirtual 116, 3) := by decide +kernel
theorem dX9_plan_63 : decode cX9_plan 63 = .ok (.ifCond .ne 5, 3) := by decide +kernel
theorem dX9_plan_66 : decode cX9_plan 66 = .ok (.iconst (-1), 1) := by decide +kernel
theorem dX9_plan_67 : decode cX9_plan 67 = .ok (.ireturn, 1) := by decide +kernel
theorem dX9_plan_68 : decode cX9_plan 68 = .ok (.aload_n 0, 1) := by decide +kernel
theorem dX9_plan_69 : decode cX9_plan 69 = .ok (.getfield 14, 3) := by decide +kernel
theorem dX9_plan_72 : decode cX9_plan 72 = .ok (.getfield 240, 3) := by decide +kernel
theorem dX9_plan_75 : decode cX9_plan 75 = .ok (.iload_n 1, 1) := by decide +kernel
theorem dX9_plan_76 : decode cX9_plan 76 = .ok (.iload_n 2, 1) := by decide +kernel
theorem dX9_plan_77 : decode cX9_plan 77 = .ok (.invokevirtual 219, 3) := by decide +kernel
theorem dX9_plan_80 : decode cX9_plan 80 = .ok (.ireturn, 1) := by decide +kernel
theorem dX9_ends_0 : decode cX9_ends 0 = .ok (.aload_n 0, 1) := by decide +kernel
theorem dX9_ends_1 : decode cX9_ends 1 = .ok (.iload_n 1, 1) := by decide +kernel
theorem dX9_ends_2 : decode cX9_ends 2 = .ok (.invokevirtual 152, 3) := by decide +kernel
theorem dX9_ends_5 : decode cX9_ends 5 = .ok (.ifCond .eq 12, 3) := by decide +kernel
theorem dX9_ends_8 : decode cX9_ends 8 = .ok (.iload_n 2, 1) := by decide +kernel
theorem dX9_ends_9 : decode cX9_ends 9 = .ok (.ifCond .lt 8, 3) := by decide +kernel
theorem dX9_ends_12 : decode cX9_ends 12 = .ok (.iload_n 2, 1) := by decide +kernel
theorem dX9_ends_13 : decode cX9_ends 13 = .ok (.iconst 1, 1) := by decide +kernel
theorem dX9_ends_14 : decode cX9_ends 14 = .ok (.if_icmp .le 5, 3) := by decide +kernel
theorem dX9_ends_17 : decode cX9_ends 17 = .ok (.iconst (-1), 1) := by decide +kernel
theorem dX9_ends_18 : decode cX9_ends 18 = .ok (.ireturn, 1) := by decide +kernel
theorem dX9_ends_19 : decode cX9_ends 19 = .ok (.aload_n 0, 1) := by decide +kernel
theorem dX9_ends_20 : decode cX9_ends 20 = .ok (.getfield 14, 3) := by decide +kernel
theorem dX9_ends_23 : decode cX9_ends 23 = .ok (.aload_n 0, 1) := by decide +kernel
theorem dX9_ends_24 : decode cX9_ends 24 = .ok (.getfield 75, 3) := by decide +kernel
theorem dX9_ends_27 : decode cX9_ends 27 = .ok (.invokevirtual 243, 3) := by decide +kernel
theorem dX9_ends_30 : decode cX9_ends 30 = .ok (.aload_n 0, 1) := by decide +kernel
theorem dX9_ends_31 : decode cX9_ends 31 = .ok (.getfield 51, 3) := by decide +kernel
theorem dX9_ends_34 : decode cX9_ends 34 = .ok (.aload_n 0, 1) := by decide +kernel
theorem dX9_ends_35 : decode cX9_ends 35 = .ok (.getfield 34, 3) := by decide +kernel
theorem dX9_ends_38 : decode cX9_ends 38 = .ok (.iload_n 1, 1) := by decide +kernel
theorem dX9_ends_39 : decode cX9_ends 39 = .ok (.aaload, 1) := by decide +kernel
theorem dX9_ends_40 : decode cX9_ends 40 = .ok (.aload_n 0, 1) := by decide +kernel
theorem dX9_ends_41 : decode cX9_ends 41 = .ok (.getfield 75, 3) := by decide +kernel
theorem dX9_ends_44 : decode cX9_ends 44 = .ok (.invokevirtual 155, 3) := by decide +kernel
theorem dX9_ends_47 : decode cX9_ends 47 = .ok (.aload_n 0, 1) := by decide +kernel
theorem dX9_ends_48 : decode cX9_ends 48 = .ok (.getfield 51, 3) := by decide +kernel
theorem dX9_ends_51 : decode cX9_ends 51 = .ok (.invokevirtual 159, 3) := by decide +kernel
theorem dX9_ends_54 : decode cX9_ends 54 = .ok (.astore_n 3, 1) := by decide +kernel
theorem dX9_ends_55 : decode cX9_ends 55 = .ok (.iload_n 2, 1) := by decide +kernel
theorem dX9_ends_56 : decode cX9_ends 56 = .ok (.ifCond .ne 10, 3) := by decide +kernel
theorem dX9_ends_59 : decode cX9_ends 59 = .ok (.aload_n 3, 1) := by decide +kernel
theorem dX9_ends_60 : decode cX9_ends 60 = .ok (.invokevirtual 163, 3) := by decide +kernel
theorem dX9_ends_63 : decode cX9_ends 63 = .ok (.goto 14, 3) := by decide +kernel
theorem dX9_ends_66 : decode cX9_ends 66 = .ok (.aload_n 3, 1) := by decide +kernel
theorem dX9_ends_67 : decode cX9_ends 67 = .ok (.aload_n 0, 1) := by decide +kernel
theorem dX9_ends_68 : decode cX9_ends 68 = .ok (.getfield 75, 3) := by decide +kernel
theorem dX9_ends_71 : decode cX9_ends 71 = .ok (.getfield 96, 3) := by decide +kernel
theorem dX9_ends_74 : decode cX9_ends 74 = .ok (.invokevirtual 130, 3) := by decide +kernel
theorem dX9_ends_77 : decode cX9_ends 77 = .ok (.ireturn, 1) := by decide +kernel
theorem dX9_book_0 : decode cX9_book 0 = .ok (.iload_n 1, 1) := by decide +kernel
theorem dX9_book_1 : decode cX9_book 1 = .ok (.iconst (-1), 1) := by decide +kernel
theorem dX9_book_2 : decode cX9_book 2 = .ok (.if_icmp .ne 16, 3) := by decide +kernel
theorem dX9_book_5 : decode cX9_book 5 = .ok (.aload_n 0, 1) := by decide +kernel
theorem dX9_book_6 : decode cX9_book 6 = .ok (.getfield 14, 3) := by decide +kernel
theorem dX9_book_9 : decode cX9_book 9 = .ok (.getfield 247, 3) := by decide +kernel
theorem dX9_book_12 : decode cX9_book 12 = .ok (.iconst 0, 1) := by decide +kernel
theorem dX9_book_13 : decode cX9_book 13 = .ok (.putfield 216, 3) := by decide +kernel
theorem dX9_book_16 : decode cX9_book 16 = .ok (.iconst 0, 1) := by decide +kernel
theorem dX9_book_17 : decode cX9_book 17 = .ok (.ireturn, 1) := by decide +kernel
theorem dX9_book_18 : decode cX9_book 18 = .ok (.aload_n 0, 1) := by decide +kernel
theorem dX9_book_19 : decode cX9_book 19 = .ok (.iload_n 1, 1) := by decide +kernel
theorem dX9_book_20 : decode cX9_book 20 = .ok (.invokevirtual 152, 3) := by decide +kernel
theorem dX9_book_23 : decode cX9_book 23 = .ok (.ifCond .ne 5, 3) := by decide +kernel
theorem dX9_book_26 : decode cX9_book 26 = .ok (.iconst (-1), 1) := by decide +kernel
theorem dX9_book_27 : decode cX9_book 27 = .ok (.ireturn, 1) := by decide +kernel
theorem dX9_book_28 : decode cX9_book 28 = .ok (.iload_n 2, 1) := by decide +kernel
theorem dX9_book_29 : decode cX9_book 29 = .ok (.ifCond .lt 9, 3) := by decide +kernel
theorem dX9_book_32 : decode cX9_book 32 = .ok (.iload_n 2, 1) := by decide +kernel
theorem dX9_book_33 : decode cX9_book 33 = .ok (.bipush 120, 2) := by decide +kernel
theorem dX9_book_35 : decode cX9_book 35 = .ok (.if_icmp .le 6, 3) := by decide +kernel
theorem dX9_book_38 : decode cX9_book 38 = .ok (.bipush (-2), 2) := by decide +kernel
theorem dX9_book_40 : decode cX9_book 40 = .ok (.ireturn, 1) := by decide +kernel
theorem dX9_book_41 : decode cX9_book 41 = .ok (.aload_n 0, 1) := by decide +kernel
theorem dX9_book_42 : decode cX9_book 42 = .ok (.getfield 14, 3) := by decide +kernel
theorem dX9_book_45 : decode cX9_book 45 = .ok (.getfield 247, 3) := by decide +kernel
theorem dX9_book_48 : decode cX9_book 48 = .ok (.iload_n 1, 1) := by decide +kernel
theorem dX9_book_49 : decode cX9_book 49 = .ok (.iload_n 2, 1) := by decide +kernel
theorem dX9_book_50 : decode cX9_book 50 = .ok (.invokevirtual 219, 3) := by decide +kernel
theorem dX9_book_53 : decode cX9_book 53 = .ok (.ireturn, 1) := by decide +kernel
theorem dX9_looked_0 : decode cX9_looked 0 = .ok (.aload_n 0, 1) := by decide +kernel
theorem dX9_looked_1 : decode cX9_looked 1 = .ok (.getfield 14, 3) := by decide +kernel
theorem dX9_looked_4 : decode cX9_looked 4 = .ok (.getfield 247, 3) := by decide +kernel
theorem dX9_looked_7 : decode cX9_looked 7 = .ok (.astore_n 1, 1) := by decide +kernel
theorem dX9_looked_8 : decode cX9_looked 8 = .ok (.iconst 0, 1) := by decide +kernel
theorem dX9_looked_9 : decode cX9_looked 9 = .ok (.istore_n 2, 1) := by decide +kernel
theorem dX9_looked_10 : decode cX9_looked 10 = .ok (.iload_n 2, 1) := by decide +kernel
theorem dX9_looked_11 : decode cX9_looked 11 = .ok (.aload_n 1, 1) := by decide +kernel
theorem dX9_looked_12 : decode cX9_looked 12 = .ok (.getfield 216, 3) := by decide +kernel
theorem dX9_looked_15 : decode cX9_looked 15 = .ok (.if_icmp .ge 33, 3) := by decide +kernel
theorem dX9_looked_18 : decode cX9_looked 18 = .ok (.aload_n 0, 1) := by decide +kernel
theorem dX9_looked_19 : decode cX9_looked 19 = .ok (.aload_n 1, 1) := by decide +kernel
theorem dX9_looked_20 : decode cX9_looked 20 = .ok (.getfield 250, 3) := by decide +kernel
theorem dX9_looked_23 : decode cX9_looked 23 = .ok (.iload_n 2, 1) := by decide +kernel
theorem dX9_looked_24 : decode cX9_looked 24 = .ok (.iaload, 1) := by decide +kernel
theorem dX9_looked_25 : decode cX9_looked 25 = .ok (.invokevirtual 179, 3) := by decide +kernel
theorem dX9_looked_28 : decode cX9_looked 28 = .ok (.invokevirtual 163, 3) := by decide +kernel
theorem dX9_looked_31 : decode cX9_looked 31 = .ok (.aload_n 1, 1) := by decide +kernel
theorem dX9_looked_32 : decode cX9_looked 32 = .ok (.getfield 253, 3) := by decide +kernel
theorem dX9_looked_35 : decode cX9_looked 35 = .ok (.iload_n 2, 1) := by decide +kernel
theorem dX9_looked_36 : decode cX9_looked 36 = .ok (.iaload, 1) := by decide +kernel
theorem dX9_looked_37 : decode cX9_looked 37 = .ok (.if_icmp .eq 5, 3) := by decide +kernel
theorem dX9_looked_40 : decode cX9_looked 40 = .ok (.iload_n 2, 1) := by decide +kernel
theorem dX9_looked_41 : decode cX9_looked 41 = .ok (.ireturn, 1) := by decide +kernel
theorem dX9_looked_42 : decode cX9_looked 42 = .ok (.iinc 2 1, 3) := by decide +kernel
theorem dX9_looked_45 : decode cX9_looked 45 = .ok (.goto (-35), 3) := by decide +kernel
theorem dX9_looked_48 : decode cX9_looked 48 = .ok (.bipush (-5), 2) := by decide +kernel
theorem dX9_looked_50 : decode cX9_looked 50 = .ok (.ireturn, 1) := by decide +kernel
theorem dX9_judge_0 : decode cX9_judge 0 = .ok (.aload_n 0, 1) := by decide +kernel
theorem dX9_judge_1 : decode cX9_judge 1 = .ok (.iload_n 1, 1) := by decide +kernel
theorem dX9_judge_2 : decode cX9_judge 2 = .ok (.invokevirtual 152, 3) := by decide +kernel
theorem dX9_judge_5 : decode cX9_judge 5 = .ok (.ifCond .eq 10, 3) := by decide +kernel
theorem dX9_judge_8 : decode cX9_judge 8 = .ok (.iload_n 2, 1) := by decide +kernel
theorem dX9_judge_9 : decode cX9_judge 9 = .ok (.invokestatic 256, 3) := by decide +kernel
theorem dX9_judge_12 : decode cX9_judge 12 = .ok (.ifCond .ne 5, 3) := by decide +kernel
theorem dX9_judge_15 : decode cX9_judge 15 = .ok (.iconst (-1), 1) := by decide +kernel
theorem dX9_judge_16 : decode cX9_judge 16 = .ok (.ireturn, 1) := by decide +kernel
theorem dX9_judge_17 : decode cX9_judge 17 = .ok (.aload_n 0, 1) := by decide +kernel
theorem dX9_judge_18 : decode cX9_judge 18 = .ok (.getfield 44, 3) := by decide +kernel
theorem dX9_judge_21 : decode cX9_judge 21 = .ok (.iload_n 2, 1) := by decide +kernel
theorem dX9_judge_22 : decode cX9_judge 22 = .ok (.aaload, 1) := by decide +kernel
theorem dX9_judge_23 : decode cX9_judge 23 = .ok (.astore 4, 2) := by decide +kernel
theorem dX9_judge_25 : decode cX9_judge 25 = .ok (.aload 4, 2) := by decide +kernel
theorem dX9_judge_27 : decode cX9_judge 27 = .ok (.invokevirtual 259, 3) := by decide +kernel
theorem dX9_judge_30 : decode cX9_judge 30 = .ok (.ifCond .ne 15, 3) := by decide +kernel
theorem dX9_judge_33 : decode cX9_judge 33 = .ok (.aload 4, 2) := by decide +kernel
theorem dX9_judge_35 : decode cX9_judge 35 = .ok (.getfield 262, 3) := by decide +kernel
theorem dX9_judge_38 : decode cX9_judge 38 = .ok (.iconst 4, 1) := by decide +kernel
theorem dX9_judge_39 : decode cX9_judge 39 = .ok (.if_icmp .eq 6, 3) := by decide +kernel
theorem dX9_judge_42 : decode cX9_judge 42 = .ok (.bipush (-12), 2) := by decide +kernel
theorem dX9_judge_44 : decode cX9_judge 44 = .ok (.ireturn, 1) := by decide +kernel
theorem dX9_judge_45 : decode cX9_judge 45 = .ok (.aload_n 0, 1) := by decide +kernel
theorem dX9_judge_46 : decode cX9_judge 46 = .ok (.iload_n 1, 1) := by decide +kernel
theorem dX9_judge_47 : decode cX9_judge 47 = .ok (.invokevirtual 179, 3) := by decide +kernel
theorem dX9_judge_50 : decode cX9_judge 50 = .ok (.astore 5, 2) := by decide +kernel
theorem dX9_judge_52 : decode cX9_judge 52 = .ok (.iconst 0, 1) := by decide +kernel
theorem dX9_judge_53 : decode cX9_judge 53 = .ok (.istore 6, 2) := by decide +kernel
theorem dX9_judge_55 : decode cX9_judge 55 = .ok (.iload 6, 2) := by decide +kernel
theorem dX9_judge_57 : decode cX9_judge 57 = .ok (.aload_n 0, 1) := by decide +kernel
theorem dX9_judge_58 : decode cX9_judge 58 = .ok (.getfield 14, 3) := by decide +kernel
theorem dX9_judge_61 : decode cX9_judge 61 = .ok (.getfield 85, 3) := by decide +kernel
theorem dX9_judge_64 : decode cX9_judge 64 = .ok (.getfield 96, 3) := by decide +kernel
theorem dX9_judge_67 : decode cX9_judge 67 = .ok (.if_icmp .ge 65, 3) := by decide +kernel
theorem dX9_judge_70 : decode cX9_judge 70 = .ok (.iload_n 3, 1) := by decide +kernel
theorem dX9_judge_71 : decode cX9_judge 71 = .ok (.ifCond .lt 15, 3) := by decide +kernel
theorem dX9_judge_74 : decode cX9_judge 74 = .ok (.iload_n 3, 1) := by decide +kernel
theorem dX9_judge_75 : decode cX9_judge 75 = .ok (.aload 4, 2) := by decide +kernel
theorem dX9_judge_77 : decode cX9_judge 77 = .ok (.getfield 265, 3) := by decide +kernel
theorem dX9_judge_80 : decode cX9_judge 80 = .ok (.iload 6, 2) := by decide +kernel
theorem dX9_judge_82 : decode cX9_judge 82 = .ok (.isub, 1) := by decide +kernel
theorem dX9_judge_83 : decode cX9_judge 83 = .ok (.if_icmp .lt 10, 3) := by decide +kernel
theorem dX9_judge_86 : decode cX9_judge 86 = .ok (.sipush 1000, 3) := by decide +kernel
theorem dX9_judge_89 : decode cX9_judge 89 = .ok (.iload 6, 2) := by decide +kernel
theorem dX9_judge_91 : decode cX9_judge 91 = .ok (.iadd, 1) := by decide +kernel
theorem dX9_judge_92 : decode cX9_judge 92 = .ok (.ireturn, 1) := by decide +kernel
theorem dX9_judge_93 : decode cX9_judge 93 = .ok (.aload 4, 2) := by decide +kernel
theorem dX9_judge_95 : decode cX9_judge 95 = .ok (.getfield 266, 3) := by decide +kernel
theorem dX9_judge_98 : decode cX9_judge 98 = .ok (.iload_n 3, 1) := by decide +kernel
theorem dX9_judge_99 : decode cX9_judge 99 = .ok (.iload 6, 2) := by decide +kernel
theorem dX9_judge_101 : decode cX9_judge 101 = .ok (.iadd, 1) := by decide +kernel
theorem dX9_judge_102 : decode cX9_judge 102 = .ok (.laload, 1) := by decide +kernel
theorem dX9_judge_103 : decode cX9_judge 103 = .ok (.lconst 0, 1) := by decide +kernel
theorem dX9_judge_104 : decode cX9_judge 104 = .ok (.lcmp, 1) := by decide +kernel
theorem dX9_judge_105 : decode cX9_judge 105 = .ok (.ifCond .eq 7, 3) := by decide +kernel
theorem dX9_judge_108 : decode cX9_judge 108 = .ok (.iconst 1, 1) := by decide +kernel
theorem dX9_judge_109 : decode cX9_judge 109 = .ok (.goto 4, 3) := by decide +kernel
theorem dX9_judge_112 : decode cX9_judge 112 = .ok (.iconst 0, 1) := by decide +kernel
theorem dX9_judge_113 : decode cX9_judge 113 = .ok (.aload 5, 2) := by decide +kernel
theorem dX9_judge_115 : decode cX9_judge 115 = .ok (.iload 6, 2) := by decide +kernel
theorem dX9_judge_117 : decode cX9_judge 117 = .ok (.invokevirtual 140, 3) := by decide +kernel
theorem dX9_judge_120 : decode cX9_judge 120 = .ok (.if_icmp .eq 6, 3) := by decide +kernel
theorem dX9_judge_123 : decode cX9_judge 123 = .ok (.iload 6, 2) := by decide +kernel
theorem dX9_judge_125 : decode cX9_judge 125 = .ok (.ireturn, 1) := by decide +kernel
theorem dX9_judge_126 : decode cX9_judge 126 = .ok (.iinc 6 1, 3) := by decide +kernel
theorem dX9_judge_129 : decode cX9_judge 129 = .ok (.goto (-74), 3) := by decide +kernel
theorem dX9_judge_132 : decode cX9_judge 132 = .ok (.bipush (-5), 2) := by decide +kernel
theorem dX9_judge_134 : decode cX9_judge 134 = .ok (.ireturn, 1) := by decide +kernel
theorem dX9_image_0 : decode cX9_image 0 = .ok (.aload_n 0, 1) := by decide +kernel
theorem dX9_image_1 : decode cX9_image 1 = .ok (.getfield 18, 3) := by decide +kernel
theorem dX9_image_4 : decode cX9_image 4 = .ok (.aload_n 0, 1) := by decide +kernel
theorem dX9_image_5 : decode cX9_image 5 = .ok (.getfield 14, 3) := by decide +kernel
theorem dX9_image_8 : decode cX9_image 8 = .ok (.invokevirtual 270, 3) := by decide +kernel
theorem dX9_image_11 : decode cX9_image 11 = .ok (.aload_n 0, 1) := by decide +kernel
theorem dX9_image_12 : decode cX9_image 12 = .ok (.iconst 1, 1) := by decide +kernel
theorem dX9_image_13 : decode cX9_image 13 = .ok (.putfield 21, 3) := by decide +kernel
theorem dX9_image_16 : decode cX9_image 16 = .ok (.aload_n 0, 1) := by decide +kernel
theorem dX9_image_17 : decode cX9_image 17 = .ok (.getfield 14, 3) := by decide +kernel
theorem dX9_image_20 : decode cX9_image 20 = .ok (.getfield 85, 3) := by decide +kernel
theorem dX9_image_23 : decode cX9_image 23 = .ok (.getfield 96, 3) := by decide +kernel
theorem dX9_image_26 : decode cX9_image 26 = .ok (.ireturn, 1) := by decide +kernel
theorem dX9_undo_0 : decode cX9_undo 0 = .ok (.aload_n 0, 1) := by decide +kernel
theorem dX9_undo_1 : decode cX9_undo 1 = .ok (.getfield 21, 3) := by decide +kernel
theorem dX9_undo_4 : decode cX9_undo 4 = .ok (.ifCond .ne 6, 3) := by decide +kernel
theorem dX9_undo_7 : decode cX9_undo 7 = .ok (.bipush (-3), 2) := by decide +kernel
theorem dX9_undo_9 : decode cX9_undo 9 = .ok (.ireturn, 1) := by decide +kernel
theorem dX9_undo_10 : decode cX9_undo 10 = .ok (.aload_n 0, 1) := by decide +kernel
theorem dX9_undo_11 : decode cX9_undo 11 = .ok (.getfield 14, 3) := by decide +kernel
theorem dX9_undo_14 : decode cX9_undo 14 = .ok (.aload_n 0, 1) := by decide +kernel
theorem dX9_undo_15 : decode cX9_undo 15 = .ok (.getfield 18, 3) := by decide +kernel
theorem dX9_undo_18 : decode cX9_undo 18 = .ok (.invokevirtual 270, 3) := by decide +kernel
theorem dX9_undo_21 : decode cX9_undo 21 = .ok (.aload_n 0, 1) := by decide +kernel
theorem dX9_undo_22 : decode cX9_undo 22 = .ok (.getfield 14, 3) := by decide +kernel
theorem dX9_undo_25 : decode cX9_undo 25 = .ok (.getfield 85, 3) := by decide +kernel
theorem dX9_undo_28 : decode cX9_undo 28 = .ok (.getfield 96, 3) := by decide +kernel
theorem dX9_undo_31 : decode cX9_undo 31 = .ok (.ireturn, 1) := by decide +kernel
theorem dX9_taken_0 : decode cX9_taken 0 = .ok (.iload_n 2, 1) := by decide +kernel
theorem dX9_taken_1 : decode cX9_taken 1 = .ok (.ifCond .lt 9, 3) := by decide +kernel
theorem dX9_taken_4 : decode cX9_taken 4 = .ok (.iload_n 2, 1) := by decide +kernel
theorem dX9_taken_5 : decode cX9_taken 5 = .ok (.bipush 6, 2) := by decide +kernel
theorem dX9_taken_7 : decode cX9_taken 7 = .ok (.if_icmp .le 6, 3) := by decide +kernel
theorem dX9_taken_10 : decode cX9_taken 10 = .ok (.bipush (-2), 2) := by decide +kernel
theorem dX9_taken_12 : decode cX9_taken 12 = .ok (.ireturn, 1) := by decide +kernel
theorem dX9_taken_13 : decode cX9_taken 13 = .ok (.aload_n 0, 1) := by decide +kernel
theorem dX9_taken_14 : decode cX9_taken 14 = .ok (.iload_n 1, 1) := by decide +kernel
theorem dX9_taken_15 : decode cX9_taken 15 = .ok (.invokevirtual 152, 3) := by decide +kernel
theorem dX9_taken_18 : decode cX9_taken 18 = .ok (.ifCond .ne 6, 3) := by decide +kernel
theorem dX9_taken_21 : decode cX9_taken 21 = .ok (.bipush (-11), 2) := by decide +kernel
theorem dX9_taken_23 : decode cX9_taken 23 = .ok (.ireturn, 1) := by decide +kernel
theorem dX9_taken_24 : decode cX9_taken 24 = .ok (.aload_n 0, 1) := by decide +kernel
theorem dX9_taken_25 : decode cX9_taken 25 = .ok (.getfield 34, 3) := by decide +kernel
theorem dX9_taken_28 : decode cX9_taken 28 = .ok (.iload_n 1, 1) := by decide +kernel
theorem dX9_taken_29 : decode cX9_taken 29 = .ok (.aaload, 1) := by decide +kernel
theorem dX9_taken_30 : decode cX9_taken 30 = .ok (.invokevirtual 273, 3) := by decide +kernel
theorem dX9_taken_33 : decode cX9_taken 33 = .ok (.iload_n 2, 1) := by decide +kernel
theorem dX9_taken_34 : decode cX9_taken 34 = .ok (.if_icmp .ne 7, 3) := by decide +kernel
theorem dX9_taken_37 : decode cX9_taken 37 = .ok (.iload_n 2, 1) := by decide +kernel
theorem dX9_taken_38 : decode cX9_taken 38 = .ok (.goto 5, 3) := by decide +kernel
theorem dX9_taken_41 : decode cX9_taken 41 = .ok (.bipush (-12), 2) := by decide +kernel
theorem dX9_taken_43 : decode cX9_taken 43 = .ok (.ireturn, 1) := by decide +kernel
theorem dX9_count_0 : decode cX9_count 0 = .ok (.iload_n 1, 1) := by decide +kernel
theorem dX9_count_1 : decode cX9_count 1 = .ok (.tableswitch 108 0 6 #[43, 54, 62, 67, 78, 89, 100], 43) := by decide +kernel
theorem dX9_count_44 : decode cX9_count 44 = .ok (.aload_n 0, 1) := by decide +kernel
theorem dX9_count_45 : decode cX9_count 45 = .ok (.getfield 14, 3) := by decide +kernel
theorem dX9_count_48 : decode cX9_count 48 = .ok (.getfield 85, 3) := by decide +kernel
theorem dX9_count_51 : decode cX9_count 51 = .ok (.getfield 96, 3) := by decide +kernel
theorem dX9_count_54 : decode cX9_count 54 = .ok (.ireturn, 1) := by decide +kernel
theorem dX9_count_55 : decode cX9_count 55 = .ok (.aload_n 0, 1) := by decide +kernel
theorem dX9_count_56 : decode cX9_count 56 = .ok (.getfield 14, 3) := by decide +kernel
theorem dX9_count_59 : decode cX9_count 59 = .ok (.getfield 109, 3) := by decide +kernel
theorem dX9_count_62 : decode cX9_count 62 = .ok (.ireturn, 1) := by decide +kernel
theorem dX9_count_63 : decode cX9_count 63 = .ok (.aload_n 0, 1) := by decide +kernel
theorem dX9_count_64 : decode cX9_count 64 = .ok (.getfield 38, 3) := by decide +kernel
theorem dX9_count_67 : decode cX9_count 67 = .ok (.ireturn, 1) := by decide +kernel
theorem dX9_count_68 : decode cX9_count 68 = .ok (.aload_n 0, 1) := by decide +kernel
theorem dX9_count_69 : decode cX9_count 69 = .ok (.getfield 14, 3) := by decide +kernel
theorem dX9_count_72 : decode cX9_count 72 = .ok (.getfield 212, 3) := by decide +kernel
theorem dX9_count_75 : decode cX9_count 75 = .ok (.getfield 216, 3) := by decide +kernel
theorem dX9_count_78 : decode cX9_count 78 = .ok (.ireturn, 1) := by decide +kernel
theorem dX9_count_79 : decode cX9_count 79 = .ok (.aload_n 0, 1) := by decide +kernel
theorem dX9_count_80 : decode cX9_count 80 = .ok (.getfield 14, 3) := by decide +kernel
theorem dX9_count_83 : decode cX9_count 83 = .ok (.getfield 240, 3) := by decide +kernel
theorem dX9_count_86 : decode cX9_count 86 = .ok (.getfield 216, 3) := by decide +kernel
theorem dX9_count_89 : decode cX9_count 89 = .ok (.ireturn, 1) := by decide +kernel
theorem dX9_count_90 : decode cX9_count 90 = .ok (.aload_n 0, 1) := by decide +kernel
theorem dX9_count_91 : decode cX9_count 91 = .ok (.getfield 14, 3) := by decide +kernel
theorem dX9_count_94 : decode cX9_count 94 = .ok (.getfield 247, 3) := by decide +kernel
theorem dX9_count_97 : decode cX9_count 97 = .ok (.getfield 216, 3) := by decide +kernel
theorem dX9_count_100 : decode cX9_count 100 = .ok (.ireturn, 1) := by decide +kernel
theorem dX9_count_101 : decode cX9_count 101 = .ok (.aload_n 0, 1) := by decide +kernel
theorem dX9_count_102 : decode cX9_count 102 = .ok (.getfield 28, 3) := by decide +kernel
theorem dX9_count_105 : decode cX9_count 105 = .ok (.getfield 143, 3) := by decide +kernel
theorem dX9_count_108 : decode cX9_count 108 = .ok (.ireturn, 1) := by decide +kernel
theorem dX9_count_109 : decode cX9_count 109 = .ok (.bipush (-2), 2) := by decide +kernel
theorem dX9_count_111 : decode cX9_count 111 = .ok (.ireturn, 1) := by decide +kernel
theorem dX9_tape_0 : decode cX9_tape 0 = .ok (.iload_n 1, 1) := by decide +kernel
theorem dX9_tape_1 : decode cX9_tape 1 = .ok (.invokestatic 256, 3) := by decide +kernel
theorem dX9_tape_4 : decode cX9_tape 4 = .ok (.ifCond .ne 5, 3) := by decide +kernel
theorem dX9_tape_7 : decode cX9_tape 7 = .ok (.iconst (-1), 1) := by decide +kernel
theorem dX9_tape_8 : decode cX9_tape 8 = .ok (.ireturn, 1) := by decide +kernel
theorem dX9_tape_9 : decode cX9_tape 9 = .ok (.iload_n 2, 1) := by decide +kernel
theorem dX9_tape_10 : decode cX9_tape 10 = .ok (.iconst (-1), 1) := by decide +kernel
theorem dX9_tape_11 : decode cX9_tape 11 = .ok (.if_icmp .ne 16, 3) := by decide +kernel
theorem dX9_tape_14 : decode cX9_tape 14 = .ok (.aload_n 0, 1) := by decide +kernel
theorem dX9_tape_15 : decode cX9_tape 15 = .ok (.getfield 44, 3) := by decide +kernel
theorem dX9_tape_18 : decode cX9_tape 18 = .ok (.iload_n 1, 1) := by decide +kernel
theorem dX9_tape_19 : decode cX9_tape 19 = .ok (.aaload, 1) := by decide +kernel
theorem dX9_tape_20 : decode cX9_tape 20 = .ok (.iload_n 2, 1) := by decide +kernel
theorem dX9_tape_21 : decode cX9_tape 21 = .ok (.iconst 0, 1) := by decide +kernel
theorem dX9_tape_22 : decode cX9_tape 22 = .ok (.invokevirtual 276, 3) := by decide +kernel
theorem dX9_tape_25 : decode cX9_tape 25 = .ok (.iconst 1, 1) := by decide +kernel
theorem dX9_tape_26 : decode cX9_tape 26 = .ok (.ireturn, 1) := by decide +kernel
theorem dX9_tape_27 : decode cX9_tape 27 = .ok (.iload_n 2, 1) := by decide +kernel
theorem dX9_tape_28 : decode cX9_tape 28 = .ok (.ifCond .lt 14, 3) := by decide +kernel
theorem dX9_tape_31 : decode cX9_tape 31 = .ok (.iload_n 2, 1) := by decide +kernel
theorem dX9_tape_32 : decode cX9_tape 32 = .ok (.iconst 4, 1) := by decide +kernel
theorem dX9_tape_33 : decode cX9_tape 33 = .ok (.if_icmp .gt 9, 3) := by decide +kernel
theorem dX9_tape_36 : decode cX9_tape 36 = .ok (.iload_n 3, 1) := by decide +kernel
theorem dX9_tape_37 : decode cX9_tape 37 = .ok (.bipush 60, 2) := by decide +kernel
theorem dX9_tape_39 : decode cX9_tape 39 = .ok (.if_icmp .le 6, 3) := by decide +kernel
theorem dX9_tape_42 : decode cX9_tape 42 = .ok (.bipush (-2), 2) := by decide +kernel
theorem dX9_tape_44 : decode cX9_tape 44 = .ok (.ireturn, 1) := by decide +kernel
theorem dX9_tape_45 : decode cX9_tape 45 = .ok (.iload_n 3, 1) := by decide +kernel
theorem dX9_tape_46 : decode cX9_tape 46 = .ok (.ifCond .ge 6, 3) := by decide +kernel
theorem dX9_tape_49 : decode cX9_tape 49 = .ok (.bipush (-14), 2) := by decide +kernel
theorem dX9_tape_51 : decode cX9_tape 51 = .ok (.ireturn, 1) := by decide +kernel
theorem dX9_tape_52 : decode cX9_tape 52 = .ok (.aload_n 0, 1) := by decide +kernel
theorem dX9_tape_53 : decode cX9_tape 53 = .ok (.getfield 44, 3) := by decide +kernel
theorem dX9_tape_56 : decode cX9_tape 56 = .ok (.iload_n 1, 1) := by decide +kernel
theorem dX9_tape_57 : decode cX9_tape 57 = .ok (.aaload, 1) := by decide +kernel
theorem dX9_tape_58 : decode cX9_tape 58 = .ok (.iload_n 2, 1) := by decide +kernel
theorem dX9_tape_59 : decode cX9_tape 59 = .ok (.iload_n 3, 1) := by decide +kernel
theorem dX9_tape_60 : decode cX9_tape 60 = .ok (.invokevirtual 276, 3) := by decide +kernel
theorem dX9_tape_63 : decode cX9_tape 63 = .ok (.iconst 1, 1) := by decide +kernel
theorem dX9_tape_64 : decode cX9_tape 64 = .ok (.ireturn, 1) := by decide +kernel
theorem dX9_item_0 : decode cX9_item 0 = .ok (.iload_n 1, 1) := by decide +kernel
theorem dX9_item_1 : decode cX9_item 1 = .ok (.invokestatic 256, 3) := by decide +kernel
theorem dX9_item_4 : decode cX9_item 4 = .ok (.ifCond .ne 5, 3) := by decide +kernel
theorem dX9_item_7 : decode cX9_item 7 = .ok (.iconst (-1), 1) := by decide +kernel
theorem dX9_item_8 : decode cX9_item 8 = .ok (.ireturn, 1) := by decide +kernel
theorem dX9_item_9 : decode cX9_item 9 = .ok (.aload_n 0, 1) := by decide +kernel
theorem dX9_item_10 : decode cX9_item 10 = .ok (.getfield 44, 3) := by decide +kernel
theorem dX9_item_13 : decode cX9_item 13 = .ok (.iload_n 1, 1) := by decide +kernel
theorem dX9_item_14 : decode cX9_item 14 = .ok (.aaload, 1) := by decide +kernel
theorem dX9_item_15 : decode cX9_item 15 = .ok (.invokevirtual 259, 3) := by decide +kernel
theorem dX9_item_18 : decode cX9_item 18 = .ok (.ifCond .eq 6, 3) := by decide +kernel
theorem dX9_item_21 : decode cX9_item 21 = .ok (.bipush (-11), 2) := by decide +kernel
theorem dX9_item_23 : decode cX9_item 23 = .ok (.ireturn, 1) := by decide +kernel
theorem dX9_item_24 : decode cX9_item 24 = .ok (.aload_n 0, 1) := by decide +kernel
theorem dX9_item_25 : decode cX9_item 25 = .ok (.getfield 44, 3) := by decide +kernel
theorem dX9_item_28 : decode cX9_item 28 = .ok (.iload_n 1, 1) := by decide +kernel
theorem dX9_item_29 : decode cX9_item 29 = .ok (.aaload, 1) := by decide +kernel
theorem dX9_item_30 : decode cX9_item 30 = .ok (.iload_n 2, 1) := by decide +kernel
theorem dX9_item_31 : decode cX9_item 31 = .ok (.invokevirtual 279, 3) := by decide +kernel
theorem dX9_item_34 : decode cX9_item 34 = .ok (.ifCond .ne 6, 3) := by decide +kernel
theorem dX9_item_37 : decode cX9_item 37 = .ok (.bipush (-13), 2) := by decide +kernel
theorem dX9_item_39 : decode cX9_item 39 = .ok (.ireturn, 1) := by decide +kernel
theorem dX9_item_40 : decode cX9_item 40 = .ok (.aload_n 0, 1) := by decide +kernel
theorem dX9_item_41 : decode cX9_item 41 = .ok (.getfield 44, 3) := by decide +kernel
theorem dX9_item_44 : decode cX9_item 44 = .ok (.iload_n 1, 1) := by decide +kernel
theorem dX9_item_45 : decode cX9_item 45 = .ok (.aaload, 1) := by decide +kernel
theorem dX9_item_46 : decode cX9_item 46 = .ok (.iload_n 2, 1) := by decide +kernel
theorem dX9_item_47 : decode cX9_item 47 = .ok (.lload_n 3, 1) := by decide +kernel
theorem dX9_item_48 : decode cX9_item 48 = .ok (.invokevirtual 282, 3) := by decide +kernel
theorem dX9_item_51 : decode cX9_item 51 = .ok (.iconst 1, 1) := by decide +kernel
theorem dX9_item_52 : decode cX9_item 52 = .ok (.ireturn, 1) := by decide +kernel
theorem dX9_read_0 : decode cX9_read 0 = .ok (.iload_n 1, 1) := by decide +kernel
theorem dX9_read_1 : decode cX9_read 1 = .ok (.invokestatic 256, 3) := by decide +kernel
theorem dX9_read_4 : decode cX9_read 4 = .ok (.ifCond .eq 16, 3) := by decide +kernel
theorem dX9_read_7 : decode cX9_read 7 = .ok (.aload_n 0, 1) := by decide +kernel
theorem dX9_read_8 : decode cX9_read 8 = .ok (.getfield 44, 3) := by decide +kernel
theorem dX9_read_11 : decode cX9_read 11 = .ok (.iload_n 1, 1) := by decide +kernel
theorem dX9_read_12 : decode cX9_read 12 = .ok (.aaload, 1) := by decide +kernel
theorem dX9_read_13 : decode cX9_read 13 = .ok (.iload_n 2, 1) := by decide +kernel
theorem dX9_read_14 : decode cX9_read 14 = .ok (.invokevirtual 279, 3) := by decide +kernel
theorem dX9_read_17 : decode cX9_read 17 = .ok (.ifCond .ne 7, 3) := by decide +kernel
theorem dX9_read_20 : decode cX9_read 20 = .ok (.ldc2_w 228, 3) := by decide +kernel
theorem dX9_read_23 : decode cX9_read 23 = .ok (.lreturn, 1) := by decide +kernel
theorem dX9_read_24 : decode cX9_read 24 = .ok (.aload_n 0, 1) := by decide +kernel
theorem dX9_read_25 : decode cX9_read 25 = .ok (.getfield 44, 3) := by decide +kernel
theorem dX9_read_28 : decode cX9_read 28 = .ok (.iload_n 1, 1) := by decide +kernel
theorem dX9_read_29 : decode cX9_read 29 = .ok (.aaload, 1) := by decide +kernel
theorem dX9_read_30 : decode cX9_read 30 = .ok (.getfield 266, 3) := by decide +kernel
theorem dX9_read_33 : decode cX9_read 33 = .ok (.iload_n 2, 1) := by decide +kernel
theorem dX9_read_34 : decode cX9_read 34 = .ok (.laload, 1) := by decide +kernel
theorem dX9_read_35 : decode cX9_read 35 = .ok (.lreturn, 1) := by decide +kernel
theorem dX9_shift_0 : decode cX9_shift 0 = .ok (.iload_n 1, 1) := by decide +kernel
theorem dX9_shift_1 : decode cX9_shift 1 = .ok (.invokestatic 256, 3) := by decide +kernel
theorem dX9_shift_4 : decode cX9_shift 4 = .ok (.ifCond .eq 10, 3) := by decide +kernel
theorem dX9_shift_7 : decode cX9_shift 7 = .ok (.iload_n 3, 1) := by decide +kernel
theorem dX9_shift_8 : decode cX9_shift 8 = .ok (.invokestatic 256, 3) := by decide +kernel
theorem dX9_shift_11 : decode cX9_shift 11 = .ok (.ifCond .ne 5, 3) := by decide +kernel
theorem dX9_shift_14 : decode cX9_shift 14 = .ok (.iconst (-1), 1) := by decide +kernel
theorem dX9_shift_15 : decode cX9_shift 15 = .ok (.ireturn, 1) := by decide +kernel
theorem dX9_shift_16 : decode cX9_shift 16 = .ok (.aload_n 0, 1) := by decide +kernel
theorem dX9_shift_17 : decode cX9_shift 17 = .ok (.getfield 44, 3) := by decide +kernel
theorem dX9_shift_20 : decode cX9_shift 20 = .ok (.iload_n 1, 1) := by decide +kernel
theorem dX9_shift_21 : decode cX9_shift 21 = .ok (.aaload, 1) := by decide +kernel
theorem dX9_shift_22 : decode cX9_shift 22 = .ok (.astore 6, 2) := by decide +kernel
theorem dX9_shift_24 : decode cX9_shift 24 = .ok (.aload_n 0, 1) := by decide +kernel
theorem dX9_shift_25 : decode cX9_shift 25 = .ok (.getfield 44, 3) := by decide +kernel
theorem dX9_shift_28 : decode cX9_shift 28 = .ok (.iload_n 3, 1) := by decide +kernel
theorem dX9_shift_29 : decode cX9_shift 29 = .ok (.aaload, 1) := by decide +kernel
theorem dX9_shift_30 : decode cX9_shift 30 = .ok (.astore 7, 2) := by decide +kernel
theorem dX9_shift_32 : decode cX9_shift 32 = .ok (.aload 6, 2) := by decide +kernel
theorem dX9_shift_34 : decode cX9_shift 34 = .ok (.invokevirtual 259, 3) := by decide +kernel
theorem dX9_shift_37 : decode cX9_shift 37 = .ok (.ifCond .ne 11, 3) := by decide +kernel
theorem dX9_shift_40 : decode cX9_shift 40 = .ok (.aload 7, 2) := by decide +kernel
theorem dX9_shift_42 : decode cX9_shift 42 = .ok (.invokevirtual 259, 3) := by decide +kernel
theorem dX9_shift_45 : decode cX9_shift 45 = .ok (.ifCond .eq 6, 3) := by decide +kernel
theorem dX9_shift_48 : decode cX9_shift 48 = .ok (.bipush (-11), 2) := by decide +kernel
theorem dX9_shift_50 : decode cX9_shift 50 = .ok (.ireturn, 1) := by decide +kernel
theorem dX9_shift_51 : decode cX9_shift 51 = .ok (.aload 6, 2) := by decide +kernel
theorem dX9_shift_53 : decode cX9_shift 53 = .ok (.getfield 262, 3) := by decide +kernel
theorem dX9_shift_56 : decode cX9_shift 56 = .ok (.aload 7, 2) := by decide +kernel
theorem dX9_shift_58 : decode cX9_shift 58 = .ok (.getfield 262, 3) := by decide +kernel
theorem dX9_shift_61 : decode cX9_shift 61 = .ok (.if_icmp .eq 6, 3) := by decide +kernel
theorem dX9_shift_64 : decode cX9_shift 64 = .ok (.bipush (-12), 2) := by decide +kernel
theorem dX9_shift_66 : decode cX9_shift 66 = .ok (.ireturn, 1) := by decide +kernel
theorem dX9_shift_67 : decode cX9_shift 67 = .ok (.aload 6, 2) := by decide +kernel
theorem dX9_shift_69 : decode cX9_shift 69 = .ok (.iload_n 2, 1) := by decide +kernel
theorem dX9_shift_70 : decode cX9_shift 70 = .ok (.iload 5, 2) := by decide +kernel
theorem dX9_shift_72 : decode cX9_shift 72 = .ok (.invokevirtual 286, 3) := by decide +kernel
theorem dX9_shift_75 : decode cX9_shift 75 = .ok (.ifCond .eq 15, 3) := by decide +kernel
theorem dX9_shift_78 : decode cX9_shift 78 = .ok (.aload 7, 2) := by decide +kernel
theorem dX9_shift_80 : decode cX9_shift 80 = .ok (.iload 4, 2) := by decide +kernel
theorem dX9_shift_82 : decode cX9_shift 82 = .ok (.iload 5, 2) := by decide +kernel
theorem dX9_shift_84 : decode cX9_shift 84 = .ok (.invokevirtual 286, 3) := by decide +kernel
theorem dX9_shift_87 : decode cX9_shift 87 = .ok (.ifCond .ne 6, 3) := by decide +kernel
theorem dX9_shift_90 : decode cX9_shift 90 = .ok (.bipush (-13), 2) := by decide +kernel
theorem dX9_shift_92 : decode cX9_shift 92 = .ok (.ireturn, 1) := by decide +kernel
theorem dX9_shift_93 : decode cX9_shift 93 = .ok (.aload 6, 2) := by decide +kernel
theorem dX9_shift_95 : decode cX9_shift 95 = .ok (.getfield 266, 3) := by decide +kernel
theorem dX9_shift_98 : decode cX9_shift 98 = .ok (.iload_n 2, 1) := by decide +kernel
theorem dX9_shift_99 : decode cX9_shift 99 = .ok (.aload 7, 2) := by decide +kernel
theorem dX9_shift_101 : decode cX9_shift 101 = .ok (.getfield 266, 3) := by decide +kernel
theorem dX9_shift_104 : decode cX9_shift 104 = .ok (.iload 4, 2) := by decide +kernel
theorem dX9_shift_106 : decode cX9_shift 106 = .ok (.iload 5, 2) := by decide +kernel
theorem dX9_shift_108 : decode cX9_shift 108 = .ok (.invokestatic 289, 3) := by decide +kernel
theorem dX9_shift_111 : decode cX9_shift 111 = .ok (.iload 5, 2) := by decide +kernel
theorem dX9_shift_113 : decode cX9_shift 113 = .ok (.ireturn, 1) := by decide +kernel
theorem dX9_isValue_0 : decode cX9_isValue 0 = .ok (.iload_n 0, 1) := by decide +kernel
theorem dX9_isValue_1 : decode cX9_isValue 1 = .ok (.ifCond .lt 13, 3) := by decide +kernel
theorem dX9_isValue_4 : decode cX9_isValue 4 = .ok (.iload_n 0, 1) := by decide +kernel
theorem dX9_isValue_5 : decode cX9_isValue 5 = .ok (.bipush 16, 2) := by decide +kernel
theorem dX9_isValue_7 : decode cX9_isValue 7 = .ok (.if_icmp .ge 7, 3) := by decide +kernel
theorem dX9_isValue_10 : decode cX9_isValue 10 = .ok (.iconst 1, 1) := by decide +kernel
theorem dX9_isValue_11 : decode cX9_isValue 11 = .ok (.goto 4, 3) := by decide +kernel
theorem dX9_isValue_14 : decode cX9_isValue 14 = .ok (.iconst 0, 1) := by decide +kernel
theorem dX9_isValue_15 : decode cX9_isValue 15 = .ok (.ireturn, 1) := by decide +kernel
theorem dX9_isKind_0 : decode cX9_isKind 0 = .ok (.iload_n 0, 1) := by decide +kernel
theorem dX9_isKind_1 : decode cX9_isKind 1 = .ok (.ifCond .lt 13, 3) := by decide +kernel
theorem dX9_isKind_4 : decode cX9_isKind 4 = .ok (.iload_n 0, 1) := by decide +kernel
theorem dX9_isKind_5 : decode cX9_isKind 5 = .ok (.bipush 20, 2) := by decide +kernel
theorem dX9_isKind_7 : decode cX9_isKind 7 = .ok (.if_icmp .ge 7, 3) := by decide +kernel
theorem dX9_isKind_10 : decode cX9_isKind 10 = .ok (.iconst 1, 1) := by decide +kernel
theorem dX9_isKind_11 : decode cX9_isKind 11 = .ok (.goto 4, 3) := by decide +kernel
theorem dX9_isKind_14 : decode cX9_isKind 14 = .ok (.iconst 0, 1) := by decide +kernel
theorem dX9_isKind_15 : decode cX9_isKind 15 = .ok (.ireturn, 1) := by decide +kernel
theorem dX9_isColumn_0 : decode cX9_isColumn 0 = .ok (.iload_n 0, 1) := by decide +kernel
theorem dX9_isColumn_1 : decode cX9_isColumn 1 = .ok (.ifCond .lt 12, 3) := by decide +kernel
theorem dX9_isColumn_4 : decode cX9_isColumn 4 = .ok (.iload_n 0, 1) := by decide +kernel
theorem dX9_isColumn_5 : decode cX9_isColumn 5 = .ok (.iconst 4, 1) := by decide +kernel
theorem dX9_isColumn_6 : decode cX9_isColumn 6 = .ok (.if_icmp .ge 7, 3) := by decide +kernel
theorem dX9_isColumn_9 : decode cX9_isColumn 9 = .ok (.iconst 1, 1) := by decide +kernel
theorem dX9_isColumn_10 : decode cX9_isColumn 10 = .ok (.goto 4, 3) := by decide +kernel
theorem dX9_isColumn_13 : decode cX9_isColumn 13 = .ok (.iconst 0, 1) := by decide +kernel
theorem dX9_isColumn_14 : decode cX9_isColumn 14 = .ok (.ireturn, 1) := by decide +kernel
theorem dX9_isPart_0 : decode cX9_isPart 0 = .ok (.iload_n 0, 1) := by decide +kernel
theorem dX9_isPart_1 : decode cX9_isPart 1 = .ok (.ifCond .eq 8, 3) := by decide +kernel
theorem dX9_isPart_4 : decode cX9_isPart 4 = .ok (.iload_n 0, 1) := by decide +kernel
theorem dX9_isPart_5 : decode cX9_isPart 5 = .ok (.iconst 1, 1) := by decide +kernel
theorem dX9_isPart_6 : decode cX9_isPart 6 = .ok (.if_icmp .ne 7, 3) := by decide +kernel
theorem dX9_isPart_9 : decode cX9_isPart 9 = .ok (.iconst 1, 1) := by decide +kernel
theorem dX9_isPart_10 : decode cX9_isPart 10 = .ok (.goto 4, 3) := by decide +kernel
theorem dX9_isPart_13 : decode cX9_isPart 13 = .ok (.iconst 0, 1) := by decide +kernel
theorem dX9_isPart_14 : decode cX9_isPart 14 = .ok (.ireturn, 1) := by decide +kernel
theorem dX9_isTape_0 : decode cX9_isTape 0 = .ok (.iload_n 0, 1) := by decide +kernel
theorem dX9_isTape_1 : decode cX9_isTape 1 = .ok (.ifCond .lt 13, 3) := by decide +kernel
theorem dX9_isTape_4 : decode cX9_isTape 4 = .ok (.iload_n 0, 1) := by decide +kernel
theorem dX9_isTape_5 : decode cX9_isTape 5 = .ok (.bipush 6, 2) := by decide +kernel
theorem dX9_isTape_7 : decode cX9_isTape 7 = .ok (.if_icmp .ge 7, 3) := by decide +kernel
theorem dX9_isTape_10 : decode cX9_isTape 10 = .ok (.iconst 1, 1) := by decide +kernel
theorem dX9_isTape_11 : decode cX9_isTape 11 = .ok (.goto 4, 3) := by decide +kernel
theorem dX9_isTape_14 : decode cX9_isTape 14 = .ok (.iconst 0, 1) := by decide +kernel
theorem dX9_isTape_15 : decode cX9_isTape 15 = .ok (.ireturn, 1) := by decide +kernel
theorem dX9_isQuery_0 : decode cX9_isQuery 0 = .ok (.iload_n 1, 1) := by decide +kernel
theorem dX9_isQuery_1 : decode cX9_isQuery 1 = .ok (.ifCond .lt 15, 3) := by decide +kernel
theorem dX9_isQuery_4 : decode cX9_isQuery 4 = .ok (.iload_n 1, 1) := by decide +kernel
theorem dX9_isQuery_5 : decode cX9_isQuery 5 = .ok (.aload_n 0, 1) := by decide +kernel
theorem dX9_isQuery_6 : decode cX9_isQuery 6 = .ok (.getfield 38, 3) := by decide +kernel
theorem dX9_isQuery_9 : decode cX9_isQuery 9 = .ok (.if_icmp .ge 7, 3) := by decide +kernel
theorem dX9_isQuery_12 : decode cX9_isQuery 12 = .ok (.iconst 1, 1) := by decide +kernel
theorem dX9_isQuery_13 : decode cX9_isQuery 13 = .ok (.goto 4, 3) := by decide +kernel
theorem dX9_isQuery_16 : decode cX9_isQuery 16 = .ok (.iconst 0, 1) := by decide +kernel
theorem dX9_isQuery_17 : decode cX9_isQuery 17 = .ok (.ireturn, 1) := by decide +kernel
theorem dX9_resultOf_0 : decode cX9_resultOf 0 = .ok (.aload_n 0, 1) := by decide +kernel
theorem dX9_resultOf_1 : decode cX9_resultOf 1 = .ok (.getfield 51, 3) := by decide +kernel
theorem dX9_resultOf_4 : decode cX9_resultOf 4 = .ok (.aload_n 0, 1) := by decide +kernel
theorem dX9_resultOf_5 : decode cX9_resultOf 5 = .ok (.getfield 34, 3) := by decide +kernel
theorem dX9_resultOf_8 : decode cX9_resultOf 8 = .ok (.iload_n 1, 1) := by decide +kernel
theorem dX9_resultOf_9 : decode cX9_resultOf 9 = .ok (.aaload, 1) := by decide +kernel
theorem dX9_resultOf_10 : decode cX9_resultOf 10 = .ok (.aload_n 0, 1) := by decide +kernel
theorem dX9_resultOf_11 : decode cX9_resultOf 11 = .ok (.getfield 14, 3) := by decide +kernel
theorem dX9_resultOf_14 : decode cX9_resultOf 14 = .ok (.getfield 85, 3) := by decide +kernel
theorem dX9_resultOf_17 : decode cX9_resultOf 17 = .ok (.invokevirtual 155, 3) := by decide +kernel
theorem dX9_resultOf_20 : decode cX9_resultOf 20 = .ok (.aload_n 0, 1) := by decide +kernel
theorem dX9_resultOf_21 : decode cX9_resultOf 21 = .ok (.getfield 51, 3) := by decide +kernel
theorem dX9_resultOf_24 : decode cX9_resultOf 24 = .ok (.invokevirtual 159, 3) := by decide +kernel
theorem dX9_resultOf_27 : decode cX9_resultOf 27 = .ok (.areturn, 1) := by decide +kernel
theorem dX9_inLowestTerms_0 : decode cX9_inLowestTerms 0 = .ok (.iload_n 0, 1) := by decide +kernel
theorem dX9_inLowestTerms_1 : decode cX9_inLowestTerms 1 = .ok (.iload_n 1, 1) := by decide +kernel
theorem dX9_inLowestTerms_2 : decode cX9_inLowestTerms 2 = .ok (.invokestatic 295, 3) := by decide +kernel
theorem dX9_inLowestTerms_5 : decode cX9_inLowestTerms 5 = .ok (.istore_n 3, 1) := by decide +kernel
theorem dX9_inLowestTerms_6 : decode cX9_inLowestTerms 6 = .ok (.iload_n 1, 1) := by decide +kernel
theorem dX9_inLowestTerms_7 : decode cX9_inLowestTerms 7 = .ok (.ifCond .eq 7, 3) := by decide +kernel
theorem dX9_inLowestTerms_10 : decode cX9_inLowestTerms 10 = .ok (.iload_n 3, 1) := by decide +kernel
theorem dX9_inLowestTerms_11 : decode cX9_inLowestTerms 11 = .ok (.ifCond .ne 7, 3) := by decide +kernel
theorem dX9_inLowestTerms_14 : decode cX9_inLowestTerms 14 = .ok (.ldc2_w 228, 3) := by decide +kernel
theorem dX9_inLowestTerms_17 : decode cX9_inLowestTerms 17 = .ok (.lreturn, 1) := by decide +kernel
theorem dX9_inLowestTerms_18 : decode cX9_inLowestTerms 18 = .ok (.iload_n 2, 1) := by decide +kernel
theorem dX9_inLowestTerms_19 : decode cX9_inLowestTerms 19 = .ok (.ifCond .ne 7, 3) := by decide +kernel
theorem dX9_inLowestTerms_22 : decode cX9_inLowestTerms 22 = .ok (.iload_n 0, 1) := by decide +kernel
theorem dX9_inLowestTerms_23 : decode cX9_inLowestTerms 23 = .ok (.goto 4, 3) := by decide +kernel
theorem dX9_inLowestTerms_26 : decode cX9_inLowestTerms 26 = .ok (.iload_n 1, 1) := by decide +kernel
theorem dX9_inLowestTerms_27 : decode cX9_inLowestTerms 27 = .ok (.iload_n 3, 1) := by decide +kernel
theorem dX9_inLowestTerms_28 : decode cX9_inLowestTerms 28 = .ok (.idiv, 1) := by decide +kernel
theorem dX9_inLowestTerms_29 : decode cX9_inLowestTerms 29 = .ok (.i2l, 1) := by decide +kernel
theorem dX9_inLowestTerms_30 : decode cX9_inLowestTerms 30 = .ok (.lreturn, 1) := by decide +kernel
theorem dX9_greatestDivisor_0 : decode cX9_greatestDivisor 0 = .ok (.iload_n 1, 1) := by decide +kernel
theorem dX9_greatestDivisor_1 : decode cX9_greatestDivisor 1 = .ok (.istore_n 2, 1) := by decide +kernel
theorem dX9_greatestDivisor_2 : decode cX9_greatestDivisor 2 = .ok (.iload_n 0, 1) := by decide +kernel
theorem dX9_greatestDivisor_3 : decode cX9_greatestDivisor 3 = .ok (.istore_n 3, 1) := by decide +kernel
theorem dX9_greatestDivisor_4 : decode cX9_greatestDivisor 4 = .ok (.iconst 0, 1) := by decide +kernel
theorem dX9_greatestDivisor_5 : decode cX9_greatestDivisor 5 = .ok (.istore 4, 2) := by decide +kernel
theorem dX9_greatestDivisor_7 : decode cX9_greatestDivisor 7 = .ok (.iload_n 2, 1) := by decide +kernel
theorem dX9_greatestDivisor_8 : decode cX9_greatestDivisor 8 = .ok (.ifCond .eq 26, 3) := by decide +kernel
theorem dX9_greatestDivisor_11 : decode cX9_greatestDivisor 11 = .ok (.iload 4, 2) := by decide +kernel
theorem dX9_greatestDivisor_13 : decode cX9_greatestDivisor 13 = .ok (.bipush 64, 2) := by decide +kernel
theorem dX9_greatestDivisor_15 : decode cX9_greatestDivisor 15 = .ok (.if_icmp .ge 19, 3) := by decide +kernel
theorem dX9_greatestDivisor_18 : decode cX9_greatestDivisor 18 = .ok (.iload_n 3, 1) := by decide +kernel
theorem dX9_greatestDivisor_19 : decode cX9_greatestDivisor 19 = .ok (.iload_n 2, 1) := by decide +kernel
theorem dX9_greatestDivisor_20 : decode cX9_greatestDivisor 20 = .ok (.irem, 1) := by decide +kernel
theorem dX9_greatestDivisor_21 : decode cX9_greatestDivisor 21 = .ok (.istore 5, 2) := by decide +kernel
theorem dX9_greatestDivisor_23 : decode cX9_greatestDivisor 23 = .ok (.iload_n 2, 1) := by decide +kernel
theorem dX9_greatestDivisor_24 : decode cX9_greatestDivisor 24 = .ok (.istore_n 3, 1) := by decide +kernel
theorem dX9_greatestDivisor_25 : decode cX9_greatestDivisor 25 = .ok (.iload 5, 2) := by decide +kernel
theorem dX9_greatestDivisor_27 : decode cX9_greatestDivisor 27 = .ok (.istore_n 2, 1) := by decide +kernel
theorem dX9_greatestDivisor_28 : decode cX9_greatestDivisor 28 = .ok (.iinc 4 1, 3) := by decide +kernel
theorem dX9_greatestDivisor_31 : decode cX9_greatestDivisor 31 = .ok (.goto (-24), 3) := by decide +kernel
theorem dX9_greatestDivisor_34 : decode cX9_greatestDivisor 34 = .ok (.iload_n 3, 1) := by decide +kernel
theorem dX9_greatestDivisor_35 : decode cX9_greatestDivisor 35 = .ok (.ireturn, 1) := by decide +kernel
end
section
/-! decode rows (printed by wip/whole/gen/mk04.py) -/
theorem dX10_init_0 : decode cX10_init 0 = .ok (.aload_n 0, 1) := by decide +kernel
theorem dX10_init_1 : decode cX10_init 1 = .ok (.invokespecial 5, 3) := by decide +kernel
theorem dX10_init_4 : decode cX10_init 4 = .ok (.aload_n 0, 1) := by decide +kernel
theorem dX10_init_5 : decode cX10_init 5 = .ok (.sipush 543, 3) := by decide +kernel
theorem dX10_init_8 : decode cX10_init 8 = .ok (.newarray .int, 2) := by decide +kernel
theorem dX10_init_10 : decode cX10_init 10 = .ok (.putfield 11, 3) := by decide +kernel
theorem dX10_init_13 : decode cX10_init 13 = .ok (.aload_n 0, 1) := by decide +kernel
theorem dX10_init_14 : decode cX10_init 14 = .ok (.sipush 543, 3) := by decide +kernel
theorem dX10_init_17 : decode cX10_init 17 = .ok (.newarray .int, 2) := by decide +kernel
theorem dX10_init_19 : decode cX10_init 19 = .ok (.putfield 15, 3) := by decide +kernel
theorem dX10_init_22 : decode cX10_init 22 = .ok (.aload_n 0, 1) := by decide +kernel
theorem dX10_init_23 : decode cX10_init 23 = .ok (.sipush 543, 3) := by decide +kernel
theorem dX10_init_26 : decode cX10_init 26 = .ok (.newarray .int, 2) := by decide +kernel
theorem dX10_init_28 : decode cX10_init 28 = .ok (.putfield 18, 3) := by decide +kernel
theorem dX10_init_31 : decode cX10_init 31 = .ok (.aload_n 0, 1) := by decide +kernel
theorem dX10_init_32 : decode cX10_init 32 = .ok (.bipush 8, 2) := by decide +kernel
theorem dX10_init_34 : decode cX10_init 34 = .ok (.newarray .int, 2) := by decide +kernel
theorem dX10_init_36 : decode cX10_init 36 = .ok (.putfield 21, 3) := by decide +kernel
theorem dX10_init_39 : decode cX10_init 39 = .ok (.aload_n 0, 1) := by decide +kernel
theorem dX10_init_40 : decode cX10_init 40 = .ok (.sipush 480, 3) := by decide +kernel
theorem dX10_init_43 : decode cX10_init 43 = .ok (.newarray .int, 2) := by decide +kernel
theorem dX10_init_45 : decode cX10_init 45 = .ok (.putfield 24, 3) := by decide +kernel
theorem dX10_init_48 : decode cX10_init 48 = .ok (.aload_n 0, 1) := by decide +kernel
theorem dX10_init_49 : decode cX10_init 49 = .ok (.sipush 480, 3) := by decide +kernel
theorem dX10_init_52 : decode cX10_init 52 = .ok (.newarray .int, 2) := by decide +kernel
theorem dX10_init_54 : decode cX10_init 54 = .ok (.putfield 27, 3) := by decide +kernel
theorem dX10_init_57 : decode cX10_init 57 = .ok (.aload_n 0, 1) := by decide +kernel
theorem dX10_init_58 : decode cX10_init 58 = .ok (.sipush 480, 3) := by decide +kernel
theorem dX10_init_61 : decode cX10_init 61 = .ok (.newarray .int, 2) := by decide +kernel
theorem dX10_init_63 : decode cX10_init 63 = .ok (.putfield 30, 3) := by decide +kernel
theorem dX10_init_66 : decode cX10_init 66 = .ok (.aload_n 0, 1) := by decide +kernel
theorem dX10_init_67 : decode cX10_init 67 = .ok (.sipush 480, 3) := by decide +kernel
theorem dX10_init_70 : decode cX10_init 70 = .ok (.newarray .int, 2) := by decide +kernel
theorem dX10_init_72 : decode cX10_init 72 = .ok (.putfield 33, 3) := by decide +kernel
theorem dX10_init_75 : decode cX10_init 75 = .ok (.aload_n 0, 1) := by decide +kernel
theorem dX10_init_76 : decode cX10_init 76 = .ok (.sipush 480, 3) := by decide +kernel
theorem dX10_init_79 : decode cX10_init 79 = .ok (.newarray .int, 2) := by decide +kernel
theorem dX10_init_81 : decode cX10_init 81 = .ok (.putfield 36, 3) := by decide +kernel
theorem dX10_init_84 : decode cX10_init 84 = .ok (.aload_n 0, 1) := by decide +kernel
theorem dX10_init_85 : decode cX10_init 85 = .ok (.sipush 480, 3) := by decide +kernel
theorem dX10_init_88 : decode cX10_init 88 = .ok (.newarray .int, 2) := by decide +kernel
theorem dX10_init_90 : decode cX10_init 90 = .ok (.putfield 39, 3) := by decide +kernel
theorem dX10_init_93 : decode cX10_init 93 = .ok (.aload_n 0, 1) := by decide +kernel
theorem dX10_init_94 : decode cX10_init 94 = .ok (.bipush 100, 2) := by decide +kernel
theorem dX10_init_96 : decode cX10_init 96 = .ok (.newarray .int, 2) := by decide +kernel
theorem dX10_init_98 : decode cX10_init 98 = .ok (.putfield 42, 3) := by decide +kernel
theorem dX10_init_101 : decode cX10_init 101 = .ok (.aload_n 0, 1) := by decide +kernel
theorem dX10_init_102 : decode cX10_init 102 = .ok (.bipush 16, 2) := by decide +kernel
theorem dX10_init_104 : decode cX10_init 104 = .ok (.newarray .int, 2) := by decide +kernel
theorem dX10_init_106 : decode cX10_init 106 = .ok (.putfield 45, 3) := by decide +kernel
theorem dX10_init_109 : decode cX10_init 109 = .ok (.aload_n 0, 1) := by decide +kernel
theorem dX10_init_110 : decode cX10_init 110 = .ok (.bipush 6, 2) := by decide +kernel
theorem dX10_init_112 : decode cX10_init 112 = .ok (.newarray .int, 2) := by decide +kernel
theorem dX10_init_114 : decode cX10_init 114 = .ok (.putfield 48, 3) := by decide +kernel
theorem dX10_init_117 : decode cX10_init 117 = .ok (.aload_n 0, 1) := by decide +kernel
theorem dX10_init_118 : decode cX10_init 118 = .ok (.bipush 6, 2) := by decide +kernel
theorem dX10_init_120 : decode cX10_init 120 = .ok (.newarray .int, 2) := by decide +kernel
theorem dX10_init_122 : decode cX10_init 122 = .ok (.putfield 51, 3) := by decide +kernel
theorem dX10_init_125 : decode cX10_init 125 = .ok (.aload_n 0, 1) := by decide +kernel
theorem dX10_init_126 : decode cX10_init 126 = .ok (.bipush 6, 2) := by decide +kernel
theorem dX10_init_128 : decode cX10_init 128 = .ok (.bipush 60, 2) := by decide +kernel
theorem dX10_init_130 : decode cX10_init 130 = .ok (.multianewarray 54 2, 4) := by decide +kernel
theorem dX10_init_134 : decode cX10_init 134 = .ok (.putfield 56, 3) := by decide +kernel
theorem dX10_init_137 : decode cX10_init 137 = .ok (.aload_n 0, 1) := by decide +kernel
theorem dX10_init_138 : decode cX10_init 138 = .ok (.bipush 60, 2) := by decide +kernel
theorem dX10_init_140 : decode cX10_init 140 = .ok (.newarray .long, 2) := by decide +kernel
theorem dX10_init_142 : decode cX10_init 142 = .ok (.putfield 59, 3) := by decide +kernel
theorem dX10_init_145 : decode cX10_init 145 = .ok (.iconst 0, 1) := by decide +kernel
theorem dX10_init_146 : decode cX10_init 146 = .ok (.istore_n 1, 1) := by decide +kernel
theorem dX10_init_147 : decode cX10_init 147 = .ok (.iload_n 1, 1) := by decide +kernel
theorem dX10_init_148 : decode cX10_init 148 = .ok (.bipush 6, 2) := by decide +kernel
theorem dX10_init_150 : decode cX10_init 150 = .ok (.if_icmp .ge 16, 3) := by decide +kernel
theorem dX10_init_153 : decode cX10_init 153 = .ok (.aload_n 0, 1) := by decide +kernel
theorem dX10_init_154 : decode cX10_init 154 = .ok (.getfield 48, 3) := by decide +kernel
theorem dX10_init_157 : decode cX10_init 157 = .ok (.iload_n 1, 1) := by decide +kernel
theorem dX10_init_158 : decode cX10_init 158 = .ok (.iconst (-1), 1) := by decide +kernel
theorem dX10_init_159 : decode cX10_init 159 = .ok (.iastore, 1) := by decide +kernel
theorem dX10_init_160 : decode cX10_init 160 = .ok (.iinc 1 1, 3) := by decide +kernel
theorem dX10_init_163 : decode cX10_init 163 = .ok (.goto (-16), 3) := by decide +kernel
theorem dX10_init_166 : decode cX10_init 166 = .ok (.return_, 1) := by decide +kernel
theorem dX10_in_0 : decode cX10_in 0 = .ok (.iload_n 0, 1) := by decide +kernel
theorem dX10_in_1 : decode cX10_in 1 = .ok (.iload_n 1, 1) := by decide +kernel
theorem dX10_in_2 : decode cX10_in 2 = .ok (.if_icmp .lt 12, 3) := by decide +kernel
theorem dX10_in_5 : decode cX10_in 5 = .ok (.iload_n 0, 1) := by decide +kernel
theorem dX10_in_6 : decode cX10_in 6 = .ok (.iload_n 2, 1) := by decide +kernel
theorem dX10_in_7 : decode cX10_in 7 = .ok (.if_icmp .gt 7, 3) := by decide +kernel
theorem dX10_in_10 : decode cX10_in 10 = .ok (.iconst 1, 1) := by decide +kernel
theorem dX10_in_11 : decode cX10_in 11 = .ok (.goto 4, 3) := by decide +kernel
theorem dX10_in_14 : decode cX10_in 14 = .ok (.iconst 0, 1) := by decide +kernel
theorem dX10_in_15 : decode cX10_in 15 = .ok (.ireturn, 1) := by decide +kernel
theorem dX10_copy_0 : decode cX10_copy 0 = .ok (.iconst 0, 1) := by decide +kernel
theorem dX10_copy_1 : decode cX10_copy 1 = .ok (.istore_n 2, 1) := by decide +kernel
theorem dX10_copy_2 : decode cX10_copy 2 = .ok (.iload_n 2, 1) := by decide +kernel
theorem dX10_copy_3 : decode cX10_copy 3 = .ok (.sipush 543, 3) := by decide +kernel
theorem dX10_copy_6 : decode cX10_copy 6 = .ok (.if_icmp .ge 15, 3) := by decide +kernel
theorem dX10_copy_9 : decode cX10_copy 9 = .ok (.aload_n 1, 1) := by decide +kernel
theorem dX10_copy_10 : decode cX10_copy 10 = .ok (.iload_n 2, 1) := by decide +kernel
theorem dX10_copy_11 : decode cX10_copy 11 = .ok (.aload_n 0, 1) := by decide +kernel
theorem dX10_copy_12 : decode cX10_copy 12 = .ok (.iload_n 2, 1) := by decide +kernel
theorem dX10_copy_13 : decode cX10_copy 13 = .ok (.iaload, 1) := by decide +kernel
theorem dX10_copy_14 : decode cX10_copy 14 = .ok (.iastore, 1) := by decide +kernel
theorem dX10_copy_15 : decode cX10_copy 15 = .ok (.iinc 2 1, 3) := by decide +kernel
theorem dX10_copy_18 : decode cX10_copy 18 = .ok (.goto (-16), 3) := by decide +kernel
theorem dX10_copy_21 : decode cX10_copy 21 = .ok (.return_, 1) := by decide +kernel
theorem dX10_isRow_0 : decode cX10_isRow 0 = .ok (.iload_n 1, 1) := by decide +kernel
theorem dX10_isRow_1 : decode cX10_isRow 1 = .ok (.iconst 0, 1) := by decide +kernel
theorem dX10_isRow_2 : decode cX10_isRow 2 = .ok (.aload_n 0, 1) := by decide +kernel
theorem dX10_isRow_3 : decode cX10_isRow 3 = .ok (.getfield 11, 3) := by decide +kernel
theorem dX10_isRow_6 : decode cX10_isRow 6 = .ok (.sipush 480, 3) := by decide +kernel
theorem dX10_isRow_9 : decode cX10_isRow 9 = .ok (.iaload, 1) := by decide +kernel
theorem dX10_isRow_10 : decode cX10_isRow 10 = .ok (.iconst 1, 1) := by decide +kernel
theorem dX10_isRow_11 : decode cX10_isRow 11 = .ok (.isub, 1) := by decide +kernel
theorem dX10_isRow_12 : decode cX10_isRow 12 = .ok (.invokestatic 63, 3) := by decide +kernel
theorem dX10_isRow_15 : decode cX10_isRow 15 = .ok (.ireturn, 1) := by decide +kernel
theorem dX10_comes_0 : decode cX10_comes 0 = .ok (.iconst 4, 1) := by decide +kernel
theorem dX10_comes_1 : decode cX10_comes 1 = .ok (.aload_n 0, 1) := by decide +kernel
theorem dX10_comes_2 : decode cX10_comes 2 = .ok (.getfield 11, 3) := by decide +kernel
theorem dX10_comes_5 : decode cX10_comes 5 = .ok (.sipush 480, 3) := by decide +kernel
theorem dX10_comes_8 : decode cX10_comes 8 = .ok (.iaload, 1) := by decide +kernel
theorem dX10_comes_9 : decode cX10_comes 9 = .ok (.imul, 1) := by decide +kernel
theorem dX10_comes_10 : decode cX10_comes 10 = .ok (.istore 5, 2) := by decide +kernel
theorem dX10_comes_12 : decode cX10_comes 12 = .ok (.aload_n 0, 1) := by decide +kernel
theorem dX10_comes_13 : decode cX10_comes 13 = .ok (.getfield 11, 3) := by decide +kernel
theorem dX10_comes_16 : decode cX10_comes 16 = .ok (.iload 5, 2) := by decide +kernel
theorem dX10_comes_18 : decode cX10_comes 18 = .ok (.iload_n 1, 1) := by decide +kernel
theorem dX10_comes_19 : decode cX10_comes 19 = .ok (.iastore, 1) := by decide +kernel
theorem dX10_comes_20 : decode cX10_comes 20 = .ok (.aload_n 0, 1) := by decide +kernel
theorem dX10_comes_21 : decode cX10_comes 21 = .ok (.getfield 11, 3) := by decide +kernel
theorem dX10_comes_24 : decode cX10_comes 24 = .ok (.iload 5, 2) := by decide +kernel
theorem dX10_comes_26 : decode cX10_comes 26 = .ok (.iconst 1, 1) := by decide +kernel
theorem dX10_comes_27 : decode cX10_comes 27 = .ok (.iadd, 1) := by decide +kernel
theorem dX10_comes_28 : decode cX10_comes 28 = .ok (.iload_n 2, 1) := by decide +kernel
theorem dX10_comes_29 : decode cX10_comes 29 = .ok (.iastore, 1) := by decide +kernel
theorem dX10_comes_30 : decode cX10_comes 30 = .ok (.aload_n 0, 1) := by decide +kernel
theorem dX10_comes_31 : decode cX10_comes 31 = .ok (.getfield 11, 3) := by decide +kernel
theorem dX10_comes_34 : decode cX10_comes 34 = .ok (.iload 5, 2) := by decide +kernel
theorem dX10_comes_36 : decode cX10_comes 36 = .ok (.iconst 2, 1) := by decide +kernel
theorem dX10_comes_37 : decode cX10_comes 37 = .ok (.iadd, 1) := by decide +kernel
theorem dX10_comes_38 : decode cX10_comes 38 = .ok (.iload_n 3, 1) := by decide +kernel
theorem dX10_comes_39 : decode cX10_comes 39 = .ok (.iastore, 1) := by decide +kernel
theorem dX10_comes_40 : decode cX10_comes 40 = .ok (.aload_n 0, 1) := by decide +kernel
theorem dX10_comes_41 : decode cX10_comes 41 = .ok (.getfield 11, 3) := by decide +kernel
theorem dX10_comes_44 : decode cX10_comes 44 = .ok (.iload 5, 2) := by decide +kernel
theorem dX10_comes_46 : decode cX10_comes 46 = .ok (.iconst 3, 1) := by decide +kernel
theorem dX10_comes_47 : decode cX10_comes 47 = .ok (.iadd, 1) := by decide +kernel
theorem dX10_comes_48 : decode cX10_comes 48 = .ok (.iload 4, 2) := by decide +kernel
theorem dX10_comes_50 : decode cX10_comes 50 = .ok (.iastore, 1) := by decide +kernel
theorem dX10_comes_51 : decode cX10_comes 51 = .ok (.aload_n 0, 1) := by decide +kernel
theorem dX10_comes_52 : decode cX10_comes 52 = .ok (.getfield 11, 3) := by decide +kernel
theorem dX10_comes_55 : decode cX10_comes 55 = .ok (.sipush 480, 3) := by decide +kernel
theorem dX10_comes_58 : decode cX10_comes 58 = .ok (.dup2, 1) := by decide +kernel
theorem dX10_comes_59 : decode cX10_comes 59 = .ok (.iaload, 1) := by decide +kernel
theorem dX10_comes_60 : decode cX10_comes 60 = .ok (.dup_x2, 1) := by decide +kernel
theorem dX10_comes_61 : decode cX10_comes 61 = .ok (.iconst 1, 1) := by decide +kernel
theorem dX10_comes_62 : decode cX10_comes 62 = .ok (.iadd, 1) := by decide +kernel
theorem dX10_comes_63 : decode cX10_comes 63 = .ok (.iastore, 1) := by decide +kernel
theorem dX10_comes_64 : decode cX10_comes 64 = .ok (.ireturn, 1) := by decide +kernel
theorem dX10_add_0 : decode cX10_add 0 = .ok (.iload_n 1, 1) := by decide +kernel
theorem dX10_add_1 : decode cX10_add 1 = .ok (.iconst 0, 1) := by decide +kernel
theorem dX10_add_2 : decode cX10_add 2 = .ok (.bipush 15, 2) := by decide +kernel
theorem dX10_add_4 : decode cX10_add 4 = .ok (.invokestatic 63, 3) := by decide +kernel
theorem dX10_add_7 : decode cX10_add 7 = .ok (.ifCond .eq 34, 3) := by decide +kernel
theorem dX10_add_10 : decode cX10_add 10 = .ok (.iload_n 2, 1) := by decide +kernel
theorem dX10_add_11 : decode cX10_add 11 = .ok (.iconst 0, 1) := by decide +kernel
theorem dX10_add_12 : decode cX10_add 12 = .ok (.bipush 15, 2) := by decide +kernel
theorem dX10_add_14 : decode cX10_add 14 = .ok (.invokestatic 63, 3) := by decide +kernel
theorem dX10_add_17 : decode cX10_add 17 = .ok (.ifCond .eq 24, 3) := by decide +kernel
theorem dX10_add_20 : decode cX10_add 20 = .ok (.iload_n 3, 1) := by decide +kernel
theorem dX10_add_21 : decode cX10_add 21 = .ok (.iconst 0, 1) := by decide +kernel
theorem dX10_add_22 : decode cX10_add 22 = .ok (.bipush 15, 2) := by decide +kernel
theorem dX10_add_24 : decode cX10_add 24 = .ok (.invokestatic 63, 3) := by decide +kernel
theorem dX10_add_27 : decode cX10_add 27 = .ok (.ifCond .eq 14, 3) := by decide +kernel
theorem dX10_add_30 : decode cX10_add 30 = .ok (.iload 4, 2) := by decide +kernel
theorem dX10_add_32 : decode cX10_add 32 = .ok (.iconst 0, 1) := by decide +kernel
theorem dX10_add_33 : decode cX10_add 33 = .ok (.bipush 15, 2) := by decide +kernel
theorem dX10_add_35 : decode cX10_add 35 = .ok (.invokestatic 63, 3) := by decide +kernel
theorem dX10_add_38 : decode cX10_add 38 = .ok (.ifCond .ne 6, 3) := by decide +kernel
theorem dX10_add_41 : decode cX10_add 41 = .ok (.bipush (-2), 2) := by decide +kernel
theorem dX10_add_43 : decode cX10_add 43 = .ok (.ireturn, 1) := by decide +kernel
theorem dX10_add_44 : decode cX10_add 44 = .ok (.aload_n 0, 1) := by decide +kernel
theorem dX10_add_45 : decode cX10_add 45 = .ok (.getfield 11, 3) := by decide +kernel
theorem dX10_add_48 : decode cX10_add 48 = .ok (.sipush 480, 3) := by decide +kernel
theorem dX10_add_51 : decode cX10_add 51 = .ok (.iaload, 1) := by decide +kernel
theorem dX10_add_52 : decode cX10_add 52 = .ok (.bipush 120, 2) := by decide +kernel
theorem dX10_add_54 : decode cX10_add 54 = .ok (.if_icmp .ne 8, 3) := by decide +kernel
theorem dX10_add_57 : decode cX10_add 57 = .ok (.bipush (-4), 2) := by decide +kernel
theorem dX10_add_59 : decode cX10_add 59 = .ok (.goto 12, 3) := by decide +kernel
theorem dX10_add_62 : decode cX10_add 62 = .ok (.aload_n 0, 1) := by decide +kernel
theorem dX10_add_63 : decode cX10_add 63 = .ok (.iload_n 1, 1) := by decide +kernel
theorem dX10_add_64 : decode cX10_add 64 = .ok (.iload_n 2, 1) := by decide +kernel
theorem dX10_add_65 : decode cX10_add 65 = .ok (.iload_n 3, 1) := by decide +kernel
theorem dX10_add_66 : decode cX10_add 66 = .ok (.iload 4, 2) := by decide +kernel
theorem dX10_add_68 : decode cX10_add 68 = .ok (.invokevirtual 67, 3) := by decide +kernel
theorem dX10_add_71 : decode cX10_add 71 = .ok (.ireturn, 1) := by decide +kernel
theorem dX10_at_0 : decode cX10_at 0 = .ok (.aload_n 0, 1) := by decide +kernel
theorem dX10_at_1 : decode cX10_at 1 = .ok (.iload_n 1, 1) := by decide +kernel
theorem dX10_at_2 : decode cX10_at 2 = .ok (.invokevirtual 71, 3) := by decide +kernel
theorem dX10_at_5 : decode cX10_at 5 = .ok (.ifCond .eq 25, 3) := by decide +kernel
theorem dX10_at_8 : decode cX10_at 8 = .ok (.iload_n 2, 1) := by decide +kernel
theorem dX10_at_9 : decode cX10_at 9 = .ok (.iconst 0, 1) := by decide +kernel
theorem dX10_at_10 : decode cX10_at 10 = .ok (.iconst 3, 1) := by decide +kernel
theorem dX10_at_11 : decode cX10_at 11 = .ok (.invokestatic 63, 3) := by decide +kernel
theorem dX10_at_14 : decode cX10_at 14 = .ok (.ifCond .eq 16, 3) := by decide +kernel
theorem dX10_at_17 : decode cX10_at 17 = .ok (.aload_n 0, 1) := by decide +kernel
theorem dX10_at_18 : decode cX10_at 18 = .ok (.getfield 11, 3) := by decide +kernel
theorem dX10_at_21 : decode cX10_at 21 = .ok (.iconst 4, 1) := by decide +kernel
theorem dX10_at_22 : decode cX10_at 22 = .ok (.iload_n 1, 1) := by decide +kernel
theorem dX10_at_23 : decode cX10_at 23 = .ok (.imul, 1) := by decide +kernel
theorem dX10_at_24 : decode cX10_at 24 = .ok (.iload_n 2, 1) := by decide +kernel
theorem dX10_at_25 : decode cX10_at 25 = .ok (.iadd, 1) := by decide +kernel
theorem dX10_at_26 : decode cX10_at 26 = .ok (.iaload, 1) := by decide +kernel
theorem dX10_at_27 : decode cX10_at 27 = .ok (.goto 4, 3) := by decide +kernel
theorem dX10_at_30 : decode cX10_at 30 = .ok (.iconst (-1), 1) := by decide +kernel
theorem dX10_at_31 : decode cX10_at 31 = .ok (.ireturn, 1) := by decide +kernel
theorem dX10_mark_0 : decode cX10_mark 0 = .ok (.aload_n 0, 1) := by decide +kernel
theorem dX10_mark_1 : decode cX10_mark 1 = .ok (.getfield 11, 3) := by decide +kernel
theorem dX10_mark_4 : decode cX10_mark 4 = .ok (.sipush 481, 3) := by decide +kernel
theorem dX10_mark_7 : decode cX10_mark 7 = .ok (.iaload, 1) := by decide +kernel
theorem dX10_mark_8 : decode cX10_mark 8 = .ok (.bipush 10, 2) := by decide +kernel
theorem dX10_mark_10 : decode cX10_mark 10 = .ok (.if_icmp .ne 6, 3) := by decide +kernel
theorem dX10_mark_13 : decode cX10_mark 13 = .ok (.bipush (-4), 2) := by decide +kernel
theorem dX10_mark_15 : decode cX10_mark 15 = .ok (.ireturn, 1) := by decide +kernel
theorem dX10_mark_16 : decode cX10_mark 16 = .ok (.aload_n 0, 1) := by decide +kernel
theorem dX10_mark_17 : decode cX10_mark 17 = .ok (.getfield 11, 3) := by decide +kernel
theorem dX10_mark_20 : decode cX10_mark 20 = .ok (.sipush 482, 3) := by decide +kernel
theorem dX10_mark_23 : decode cX10_mark 23 = .ok (.aload_n 0, 1) := by decide +kernel
theorem dX10_mark_24 : decode cX10_mark 24 = .ok (.getfield 11, 3) := by decide +kernel
theorem dX10_mark_27 : decode cX10_mark 27 = .ok (.sipush 481, 3) := by decide +kernel
theorem dX10_mark_30 : decode cX10_mark 30 = .ok (.iaload, 1) := by decide +kernel
theorem dX10_mark_31 : decode cX10_mark 31 = .ok (.iadd, 1) := by decide +kernel
theorem dX10_mark_32 : decode cX10_mark 32 = .ok (.aload_n 0, 1) := by decide +kernel
theorem dX10_mark_33 : decode cX10_mark 33 = .ok (.getfield 11, 3) := by decide +kernel
theorem dX10_mark_36 : decode cX10_mark 36 = .ok (.sipush 480, 3) := by decide +kernel
theorem dX10_mark_39 : decode cX10_mark 39 = .ok (.iaload, 1) := by decide +kernel
theorem dX10_mark_40 : decode cX10_mark 40 = .ok (.iastore, 1) := by decide +kernel
theorem dX10_mark_41 : decode cX10_mark 41 = .ok (.aload_n 0, 1) := by decide +kernel
theorem dX10_mark_42 : decode cX10_mark 42 = .ok (.getfield 11, 3) := by decide +kernel
theorem dX10_mark_45 : decode cX10_mark 45 = .ok (.sipush 481, 3) := by decide +kernel
theorem dX10_mark_48 : decode cX10_mark 48 = .ok (.dup2, 1) := by decide +kernel
theorem dX10_mark_49 : decode cX10_mark 49 = .ok (.iaload, 1) := by decide +kernel
theorem dX10_mark_50 : decode cX10_mark 50 = .ok (.dup_x2, 1) := by decide +kernel
theorem dX10_mark_51 : decode cX10_mark 51 = .ok (.iconst 1, 1) := by decide +kernel
theorem dX10_mark_52 : decode cX10_mark 52 = .ok (.iadd, 1) := by decide +kernel
theorem dX10_mark_53 : decode cX10_mark 53 = .ok (.iastore, 1) := by decide +kernel
theorem dX10_mark_54 : decode cX10_mark 54 = .ok (.ireturn, 1) := by decide +kernel
theorem dX10_back_0 : decode cX10_back 0 = .ok (.iload_n 1, 1) := by decide +kernel
theorem dX10_back_1 : decode cX10_back 1 = .ok (.iconst 0, 1) := by decide +kernel
theorem dX10_back_2 : decode cX10_back 2 = .ok (.aload_n 0, 1) := by decide +kernel
theorem dX10_back_3 : decode cX10_back 3 = .ok (.getfield 11, 3) := by decide +kernel
theorem dX10_back_6 : decode cX10_back 6 = .ok (.sipush 481, 3) := by decide +kernel
theorem dX10_back_9 : decode cX10_back 9 = .ok (.iaload, 1) := by decide +kernel
theorem dX10_back_10 : decode cX10_back 10 = .ok (.iconst 1, 1) := by decide +kernel
theorem dX10_back_11 : decode cX10_back 11 = .ok (.isub, 1) := by decide +kernel
theorem dX10_back_12 : decode cX10_back 12 = .ok (.invokestatic 63, 3) := by decide +kernel
theorem dX10_back_15 : decode cX10_back 15 = .ok (.ifCond .ne 5, 3) := by decide +kernel
theorem dX10_back_18 : decode cX10_back 18 = .ok (.iconst (-1), 1) := by decide +kernel
theorem dX10_back_19 : decode cX10_back 19 = .ok (.ireturn, 1) := by decide +kernel
theorem dX10_back_20 : decode cX10_back 20 = .ok (.aload_n 0, 1) := by decide +kernel
theorem dX10_back_21 : decode cX10_back 21 = .ok (.getfield 11, 3) := by decide +kernel
theorem dX10_back_24 : decode cX10_back 24 = .ok (.sipush 480, 3) := by decide +kernel
theorem dX10_back_27 : decode cX10_back 27 = .ok (.iaload, 1) := by decide +kernel
theorem dX10_back_28 : decode cX10_back 28 = .ok (.aload_n 0, 1) := by decide +kernel
theorem dX10_back_29 : decode cX10_back 29 = .ok (.getfield 11, 3) := by decide +kernel
theorem dX10_back_32 : decode cX10_back 32 = .ok (.sipush 482, 3) := by decide +kernel
theorem dX10_back_35 : decode cX10_back 35 = .ok (.iload_n 1, 1) := by decide +kernel
theorem dX10_back_36 : decode cX10_back 36 = .ok (.iadd, 1) := by decide +kernel
theorem dX10_back_37 : decode cX10_back 37 = .ok (.iaload, 1) := by decide +kernel
theorem dX10_back_38 : decode cX10_back 38 = .ok (.isub, 1) := by decide +kernel
theorem dX10_back_39 : decode cX10_back 39 = .ok (.istore_n 2, 1) := by decide +kernel
theorem dX10_back_40 : decode cX10_back 40 = .ok (.aload_n 0, 1) := by decide +kernel
theorem dX10_back_41 : decode cX10_back 41 = .ok (.getfield 11, 3) := by decide +kernel
theorem dX10_back_44 : decode cX10_back 44 = .ok (.sipush 480, 3) := by decide +kernel
theorem dX10_back_47 : decode cX10_back 47 = .ok (.aload_n 0, 1) := by decide +kernel
theorem dX10_back_48 : decode cX10_back 48 = .ok (.getfield 11, 3) := by decide +kernel
theorem dX10_back_51 : decode cX10_back 51 = .ok (.sipush 482, 3) := by decide +kernel
theorem dX10_back_54 : decode cX10_back 54 = .ok (.iload_n 1, 1) := by decide +kernel
theorem dX10_back_55 : decode cX10_back 55 = .ok (.iadd, 1) := by decide +kernel
theorem dX10_back_56 : decode cX10_back 56 = .ok (.iaload, 1) := by decide +kernel
theorem dX10_back_57 : decode cX10_back 57 = .ok (.iastore, 1) := by decide +kernel
theorem dX10_back_58 : decode cX10_back 58 = .ok (.aload_n 0, 1) := by decide +kernel
theorem dX10_back_59 : decode cX10_back 59 = .ok (.getfield 11, 3) := by decide +kernel
theorem dX10_back_62 : decode cX10_back 62 = .ok (.sipush 481, 3) := by decide +kernel
theorem dX10_back_65 : decode cX10_back 65 = .ok (.iload_n 1, 1) := by decide +kernel
theorem dX10_back_66 : decode cX10_back 66 = .ok (.iconst 1, 1) := by decide +kernel
theorem dX10_back_67 : decode cX10_back 67 = .ok (.iadd, 1) := by decide +kernel
theorem dX10_back_68 : decode cX10_back 68 = .ok (.iastore, 1) := by decide +kernel
theorem dX10_back_69 : decode cX10_back 69 = .ok (.iload_n 2, 1) := by decide +kernel
theorem dX10_back_70 : decode cX10_back 70 = .ok (.ireturn, 1) := by decide +kernel
theorem dX10_bit_0 : decode cX10_bit 0 = .ok (.aload_n 0, 1) := by decide +kernel
theorem dX10_bit_1 : decode cX10_bit 1 = .ok (.getfield 11, 3) := by decide +kernel
theorem dX10_bit_4 : decode cX10_bit 4 = .ok (.iconst 4, 1) := by decide +kernel
theorem dX10_bit_5 : decode cX10_bit 5 = .ok (.iload_n 1, 1) := by decide +kernel
theorem dX10_bit_6 : decode cX10_bit 6 = .ok (.imul, 1) := by decide +kernel
theorem dX10_bit_7 : decode cX10_bit 7 = .ok (.iload_n 2, 1) := by decide +kernel
theorem dX10_bit_8 : decode cX10_bit 8 = .ok (.iadd, 1) := by decide +kernel
theorem dX10_bit_9 : decode cX10_bit 9 = .ok (.iaload, 1) := by decide +kernel
theorem dX10_bit_10 : decode cX10_bit 10 = .ok (.istore 4, 2) := by decide +kernel
theorem dX10_bit_12 : decode cX10_bit 12 = .ok (.iload_n 3, 1) := by decide +kernel
theorem dX10_bit_13 : decode cX10_bit 13 = .ok (.bipush 16, 2) := by decide +kernel
theorem dX10_bit_15 : decode cX10_bit 15 = .ok (.if_icmp .ge 17, 3) := by decide +kernel
theorem dX10_bit_18 : decode cX10_bit 18 = .ok (.iload 4, 2) := by decide +kernel
theorem dX10_bit_20 : decode cX10_bit 20 = .ok (.iload_n 3, 1) := by decide +kernel
theorem dX10_bit_21 : decode cX10_bit 21 = .ok (.if_icmp .ne 7, 3) := by decide +kernel
theorem dX10_bit_24 : decode cX10_bit 24 = .ok (.iconst 1, 1) := by decide +kernel
theorem dX10_bit_25 : decode cX10_bit 25 = .ok (.goto 25, 3) := by decide +kernel
theorem dX10_bit_28 : decode cX10_bit 28 = .ok (.iconst 0, 1) := by decide +kernel
theorem dX10_bit_29 : decode cX10_bit 29 = .ok (.goto 21, 3) := by decide +kernel
theorem dX10_bit_32 : decode cX10_bit 32 = .ok (.iload 4, 2) := by decide +kernel
theorem dX10_bit_34 : decode cX10_bit 34 = .ok (.iload_n 3, 1) := by decide +kernel
theorem dX10_bit_35 : decode cX10_bit 35 = .ok (.bipush 16, 2) := by decide +kernel
theorem dX10_bit_37 : decode cX10_bit 37 = .ok (.isub, 1) := by decide +kernel
theorem dX10_bit_38 : decode cX10_bit 38 = .ok (.ishr, 1) := by decide +kernel
theorem dX10_bit_39 : decode cX10_bit 39 = .ok (.iconst 1, 1) := by decide +kernel
theorem dX10_bit_40 : decode cX10_bit 40 = .ok (.iand, 1) := by decide +kernel
theorem dX10_bit_41 : decode cX10_bit 41 = .ok (.iconst 1, 1) := by decide +kernel
theorem dX10_bit_42 : decode cX10_bit 42 = .ok (.if_icmp .ne 7, 3) := by decide +kernel
theorem dX10_bit_45 : decode cX10_bit 45 = .ok (.iconst 1, 1) := by decide +kernel
theorem dX10_bit_46 : decode cX10_bit 46 = .ok (.goto 4, 3) := by decide +kernel
theorem dX10_bit_49 : decode cX10_bit 49 = .ok (.iconst 0, 1) := by decide +kernel
theorem dX10_bit_50 : decode cX10_bit 50 = .ok (.ireturn, 1) := by decide +kernel
theorem dX10_runsOf_0 : decode cX10_runsOf 0 = .ok (.iconst 0, 1) := by decide +kernel
theorem dX10_runsOf_1 : decode cX10_runsOf 1 = .ok (.istore_n 3, 1) := by decide +kernel
theorem dX10_runsOf_2 : decode cX10_runsOf 2 = .ok (.iconst 0, 1) := by decide +kernel
theorem dX10_runsOf_3 : decode cX10_runsOf 3 = .ok (.istore 4, 2) := by decide +kernel
theorem dX10_runsOf_5 : decode cX10_runsOf 5 = .ok (.iload 4, 2) := by decide +kernel
theorem dX10_runsOf_7 : decode cX10_runsOf 7 = .ok (.aload_n 0, 1) := by decide +kernel
theorem dX10_runsOf_8 : decode cX10_runsOf 8 = .ok (.getfield 11, 3) := by decide +kernel
theorem dX10_runsOf_11 : decode cX10_runsOf 11 = .ok (.sipush 480, 3) := by decide +kernel
theorem dX10_runsOf_14 : decode cX10_runsOf 14 = .ok (.iaload, 1) := by decide +kernel
theorem dX10_runsOf_15 : decode cX10_runsOf 15 = .ok (.if_icmp .ge 43, 3) := by decide +kernel
theorem dX10_runsOf_18 : decode cX10_runsOf 18 = .ok (.iload_n 3, 1) := by decide +kernel
theorem dX10_runsOf_19 : decode cX10_runsOf 19 = .ok (.iload 4, 2) := by decide +kernel
theorem dX10_runsOf_21 : decode cX10_runsOf 21 = .ok (.ifCond .eq 24, 3) := by decide +kernel
theorem dX10_runsOf_24 : decode cX10_runsOf 24 = .ok (.aload_n 0, 1) := by decide +kernel
theorem dX10_runsOf_25 : decode cX10_runsOf 25 = .ok (.iload 4, 2) := by decide +kernel
theorem dX10_runsOf_27 : decode cX10_runsOf 27 = .ok (.iload_n 1, 1) := by decide +kernel
theorem dX10_runsOf_28 : decode cX10_runsOf 28 = .ok (.iload_n 2, 1) := by decide +kernel
theorem dX10_runsOf_29 : decode cX10_runsOf 29 = .ok (.invokevirtual 75, 3) := by decide +kernel
theorem dX10_runsOf_32 : decode cX10_runsOf 32 = .ok (.aload_n 0, 1) := by decide +kernel
theorem dX10_runsOf_33 : decode cX10_runsOf 33 = .ok (.iload 4, 2) := by decide +kernel
theorem dX10_runsOf_35 : decode cX10_runsOf 35 = .ok (.iconst 1, 1) := by decide +kernel
theorem dX10_runsOf_36 : decode cX10_runsOf 36 = .ok (.isub, 1) := by decide +kernel
theorem dX10_runsOf_37 : decode cX10_runsOf 37 = .ok (.iload_n 1, 1) := by decide +kernel
theorem dX10_runsOf_38 : decode cX10_runsOf 38 = .ok (.iload_n 2, 1) := by decide +kernel
theorem dX10_runsOf_39 : decode cX10_runsOf 39 = .ok (.invokevirtual 75, 3) := by decide +kernel
theorem dX10_runsOf_42 : decode cX10_runsOf 42 = .ok (.if_icmp .eq 7, 3) := by decide +kernel
theorem dX10_runsOf_45 : decode cX10_runsOf 45 = .ok (.iconst 1, 1) := by decide +kernel
theorem dX10_runsOf_46 : decode cX10_runsOf 46 = .ok (.goto 4, 3) := by decide +kernel
theorem dX10_runsOf_49 : decode cX10_runsOf 49 = .ok (.iconst 0, 1) := by decide +kernel
theorem dX10_runsOf_50 : decode cX10_runsOf 50 = .ok (.iadd, 1) := by decide +kernel
theorem dX10_runsOf_51 : decode cX10_runsOf 51 = .ok (.istore_n 3, 1) := by decide +kernel
theorem dX10_runsOf_52 : decode cX10_runsOf 52 = .ok (.iinc 4 1, 3) := by decide +kernel
theorem dX10_runsOf_55 : decode cX10_runsOf 55 = .ok (.goto (-50), 3) := by decide +kernel
theorem dX10_runsOf_58 : decode cX10_runsOf 58 = .ok (.iload_n 3, 1) := by decide +kernel
theorem dX10_runsOf_59 : decode cX10_runsOf 59 = .ok (.ireturn, 1) := by decide +kernel
theorem dX10_runs_0 : decode cX10_runs 0 = .ok (.iload_n 1, 1) := by decide +kernel
theorem dX10_runs_1 : decode cX10_runs 1 = .ok (.iconst 0, 1) := by decide +kernel
theorem dX10_runs_2 : decode cX10_runs 2 = .ok (.iconst 3, 1) := by decide +kernel
theorem dX10_runs_3 : decode cX10_runs 3 = .ok (.invokestatic 63, 3) := by decide +kernel
theorem dX10_runs_6 : decode cX10_runs 6 = .ok (.ifCond .eq 22, 3) := by decide +kernel
theorem dX10_runs_9 : decode cX10_runs 9 = .ok (.iload_n 2, 1) := by decide +kernel
theorem dX10_runs_10 : decode cX10_runs 10 = .ok (.iconst 0, 1) := by decide +kernel
theorem dX10_runs_11 : decode cX10_runs 11 = .ok (.bipush 19, 2) := by decide +kernel
theorem dX10_runs_13 : decode cX10_runs 13 = .ok (.invokestatic 63, 3) := by decide +kernel
theorem dX10_runs_16 : decode cX10_runs 16 = .ok (.ifCond .eq 12, 3) := by decide +kernel
theorem dX10_runs_19 : decode cX10_runs 19 = .ok (.aload_n 0, 1) := by decide +kernel
theorem dX10_runs_20 : decode cX10_runs 20 = .ok (.iload_n 1, 1) := by decide +kernel
theorem dX10_runs_21 : decode cX10_runs 21 = .ok (.iload_n 2, 1) := by decide +kernel
theorem dX10_runs_22 : decode cX10_runs 22 = .ok (.invokevirtual 78, 3) := by decide +kernel
theorem dX10_runs_25 : decode cX10_runs 25 = .ok (.goto 4, 3) := by decide +kernel
theorem dX10_runs_28 : decode cX10_runs 28 = .ok (.iconst (-1), 1) := by decide +kernel
theorem dX10_runs_29 : decode cX10_runs 29 = .ok (.ireturn, 1) := by decide +kernel
theorem dX10_run_0 : decode cX10_run 0 = .ok (.iload_n 1, 1) := by decide +kernel
theorem dX10_run_1 : decode cX10_run 1 = .ok (.iconst 0, 1) := by decide +kernel
theorem dX10_run_2 : decode cX10_run 2 = .ok (.iconst 3, 1) := by decide +kernel
theorem dX10_run_3 : decode cX10_run 3 = .ok (.invokestatic 63, 3) := by decide +kernel
theorem dX10_run_6 : decode cX10_run 6 = .ok (.ifCond .eq 17, 3) := by decide +kernel
theorem dX10_run_9 : decode cX10_run 9 = .ok (.iload_n 2, 1) := by decide +kernel
theorem dX10_run_10 : decode cX10_run 10 = .ok (.iconst 0, 1) := by decide +kernel
theorem dX10_run_11 : decode cX10_run 11 = .ok (.bipush 19, 2) := by decide +kernel
theorem dX10_run_13 : decode cX10_run 13 = .ok (.invokestatic 63, 3) := by decide +kernel
theorem dX10_run_16 : decode cX10_run 16 = .ok (.ifCond .eq 7, 3) := by decide +kernel
theorem dX10_run_19 : decode cX10_run 19 = .ok (.iload_n 3, 1) := by decide +kernel
theorem dX10_run_20 : decode cX10_run 20 = .ok (.ifCond .ge 5, 3) := by decide +kernel
theorem dX10_run_23 : decode cX10_run 23 = .ok (.iconst (-1), 1) := by decide +kernel
theorem dX10_run_24 : decode cX10_run 24 = .ok (.ireturn, 1) := by decide +kernel
theorem dX10_run_25 : decode cX10_run 25 = .ok (.iconst (-1), 1) := by decide +kernel
theorem dX10_run_26 : decode cX10_run 26 = .ok (.istore 4, 2) := by decide +kernel
theorem dX10_run_28 : decode cX10_run 28 = .ok (.iconst 0, 1) := by decide +kernel
theorem dX10_run_29 : decode cX10_run 29 = .ok (.istore 5, 2) := by decide +kernel
theorem dX10_run_31 : decode cX10_run 31 = .ok (.iconst 0, 1) := by decide +kernel
theorem dX10_run_32 : decode cX10_run 32 = .ok (.istore 6, 2) := by decide +kernel
theorem dX10_run_34 : decode cX10_run 34 = .ok (.iload 6, 2) := by decide +kernel
theorem dX10_run_36 : decode cX10_run 36 = .ok (.aload_n 0, 1) := by decide +kernel
theorem dX10_run_37 : decode cX10_run 37 = .ok (.getfield 11, 3) := by decide +kernel
theorem dX10_run_40 : decode cX10_run 40 = .ok (.sipush 480, 3) := by decide +kernel
theorem dX10_run_43 : decode cX10_run 43 = .ok (.iaload, 1) := by decide +kernel
theorem dX10_run_44 : decode cX10_run 44 = .ok (.if_icmp .ge 53, 3) := by decide +kernel
theorem dX10_run_47 : decode cX10_run 47 = .ok (.iload 6, 2) := by decide +kernel
theorem dX10_run_49 : decode cX10_run 49 = .ok (.ifCond .eq 24, 3) := by decide +kernel
theorem dX10_run_52 : decode cX10_run 52 = .ok (.aload_n 0, 1) := by decide +kernel
theorem dX10_run_53 : decode cX10_run 53 = .ok (.iload 6, 2) := by decide +kernel
theorem dX10_run_55 : decode cX10_run 55 = .ok (.iload_n 1, 1) := by decide +kernel
theorem dX10_run_56 : decode cX10_run 56 = .ok (.iload_n 2, 1) := by decide +kernel
theorem dX10_run_57 : decode cX10_run 57 = .ok (.invokevirtual 75, 3) := by decide +kernel
theorem dX10_run_60 : decode cX10_run 60 = .ok (.aload_n 0, 1) := by decide +kernel
theorem dX10_run_61 : decode cX10_run 61 = .ok (.iload 6, 2) := by decide +kernel
theorem dX10_run_63 : decode cX10_run 63 = .ok (.iconst 1, 1) := by decide +kernel
theorem dX10_run_64 : decode cX10_run 64 = .ok (.isub, 1) := by decide +kernel
theorem dX10_run_65 : decode cX10_run 65 = .ok (.iload_n 1, 1) := by decide +kernel
theorem dX10_run_66 : decode cX10_run 66 = .ok (.iload_n 2, 1) := by decide +kernel
theorem dX10_run_67 : decode cX10_run 67 = .ok (.invokevirtual 75, 3) := by decide +kernel
theorem dX10_run_70 : decode cX10_run 70 = .ok (.if_icmp .eq 18, 3) := by decide +kernel
theorem dX10_run_73 : decode cX10_run 73 = .ok (.iinc 4 1, 3) := by decide +kernel
theorem dX10_run_76 : decode cX10_run 76 = .ok (.iload 4, 2) := by decide +kernel
theorem dX10_run_78 : decode cX10_run 78 = .ok (.iload_n 3, 1) := by decide +kernel
theorem dX10_run_79 : decode cX10_run 79 = .ok (.if_icmp .le 6, 3) := by decide +kernel
theorem dX10_run_82 : decode cX10_run 82 = .ok (.goto 15, 3) := by decide +kernel
theorem dX10_run_85 : decode cX10_run 85 = .ok (.iconst 0, 1) := by decide +kernel
theorem dX10_run_86 : decode cX10_run 86 = .ok (.istore 5, 2) := by decide +kernel
theorem dX10_run_88 : decode cX10_run 88 = .ok (.iinc 5 1, 3) := by decide +kernel
theorem dX10_run_91 : decode cX10_run 91 = .ok (.iinc 6 1, 3) := by decide +kernel
theorem dX10_run_94 : decode cX10_run 94 = .ok (.goto (-60), 3) := by decide +kernel
theorem dX10_run_97 : decode cX10_run 97 = .ok (.iload 4, 2) := by decide +kernel
theorem dX10_run_99 : decode cX10_run 99 = .ok (.iload_n 3, 1) := by decide +kernel
theorem dX10_run_100 : decode cX10_run 100 = .ok (.if_icmp .ge 6, 3) := by decide +kernel
theorem dX10_run_103 : decode cX10_run 103 = .ok (.bipush (-5), 2) := by decide +kernel
theorem dX10_run_105 : decode cX10_run 105 = .ok (.ireturn, 1) := by decide +kernel
theorem dX10_run_106 : decode cX10_run 106 = .ok (.aload_n 0, 1) := by decide +kernel
theorem dX10_run_107 : decode cX10_run 107 = .ok (.iload_n 1, 1) := by decide +kernel
theorem dX10_run_108 : decode cX10_run 108 = .ok (.iload_n 2, 1) := by decide +kernel
theorem dX10_run_109 : decode cX10_run 109 = .ok (.iload_n 3, 1) := by decide +kernel
theorem dX10_run_110 : decode cX10_run 110 = .ok (.invokevirtual 82, 3) := by decide +kernel
theorem dX10_run_113 : decode cX10_run 113 = .ok (.istore 6, 2) := by decide +kernel
theorem dX10_run_115 : decode cX10_run 115 = .ok (.iload 6, 2) := by decide +kernel
theorem dX10_run_117 : decode cX10_run 117 = .ok (.ifCond .eq 11, 3) := by decide +kernel
theorem dX10_run_120 : decode cX10_run 120 = .ok (.bipush (-10), 2) := by decide +kernel
theorem dX10_run_122 : decode cX10_run 122 = .ok (.iload 5, 2) := by decide +kernel
theorem dX10_run_124 : decode cX10_run 124 = .ok (.isub, 1) := by decide +kernel
theorem dX10_run_125 : decode cX10_run 125 = .ok (.goto 5, 3) := by decide +kernel
theorem dX10_run_128 : decode cX10_run 128 = .ok (.iload 5, 2) := by decide +kernel
theorem dX10_run_130 : decode cX10_run 130 = .ok (.ireturn, 1) := by decide +kernel
theorem dX10_isOnes_0 : decode cX10_isOnes 0 = .ok (.aload_n 0, 1) := by decide +kernel
theorem dX10_isOnes_1 : decode cX10_isOnes 1 = .ok (.iconst 0, 1) := by decide +kernel
theorem dX10_isOnes_2 : decode cX10_isOnes 2 = .ok (.iload_n 1, 1) := by decide +kernel
theorem dX10_isOnes_3 : decode cX10_isOnes 3 = .ok (.iload_n 2, 1) := by decide +kernel
theorem dX10_isOnes_4 : decode cX10_isOnes 4 = .ok (.invokevirtual 75, 3) := by decide +kernel
theorem dX10_isOnes_7 : decode cX10_isOnes 7 = .ok (.iload_n 3, 1) := by decide +kernel
theorem dX10_isOnes_8 : decode cX10_isOnes 8 = .ok (.iconst 2, 1) := by decide +kernel
theorem dX10_isOnes_9 : decode cX10_isOnes 9 = .ok (.irem, 1) := by decide +kernel
theorem dX10_isOnes_10 : decode cX10_isOnes 10 = .ok (.ifCond .ne 7, 3) := by decide +kernel
theorem dX10_isOnes_13 : decode cX10_isOnes 13 = .ok (.iconst 1, 1) := by decide +kernel
theorem dX10_isOnes_14 : decode cX10_isOnes 14 = .ok (.goto 4, 3) := by decide +kernel
theorem dX10_isOnes_17 : decode cX10_isOnes 17 = .ok (.iconst 0, 1) := by decide +kernel
theorem dX10_isOnes_18 : decode cX10_isOnes 18 = .ok (.if_icmp .ne 7, 3) := by decide +kernel
theorem dX10_isOnes_21 : decode cX10_isOnes 21 = .ok (.iconst 1, 1) := by decide +kernel
theorem dX10_isOnes_22 : decode cX10_isOnes 22 = .ok (.goto 4, 3) := by decide +kernel
theorem dX10_isOnes_25 : decode cX10_isOnes 25 = .ok (.iconst 0, 1) := by decide +kernel
theorem dX10_isOnes_26 : decode cX10_isOnes 26 = .ok (.ireturn, 1) := by decide +kernel
theorem dX10_feed_0 : decode cX10_feed 0 = .ok (.iload_n 1, 1) := by decide +kernel
theorem dX10_feed_1 : decode cX10_feed 1 = .ok (.iconst 0, 1) := by decide +kernel
theorem dX10_feed_2 : decode cX10_feed 2 = .ok (.bipush 127, 2) := by decide +kernel
theorem dX10_feed_4 : decode cX10_feed 4 = .ok (.invokestatic 63, 3) := by decide +kernel
theorem dX10_feed_7 : decode cX10_feed 7 = .ok (.ifCond .ne 6, 3) := by decide +kernel
theorem dX10_feed_10 : decode cX10_feed 10 = .ok (.bipush (-2), 2) := by decide +kernel
theorem dX10_feed_12 : decode cX10_feed 12 = .ok (.ireturn, 1) := by decide +kernel
theorem dX10_feed_13 : decode cX10_feed 13 = .ok (.aload_n 0, 1) := by decide +kernel
theorem dX10_feed_14 : decode cX10_feed 14 = .ok (.getfield 85, 3) := by decide +kernel
theorem dX10_feed_17 : decode cX10_feed 17 = .ok (.bipush 100, 2) := by decide +kernel
theorem dX10_feed_19 : decode cX10_feed 19 = .ok (.if_icmp .ne 6, 3) := by decide +kernel
theorem dX10_feed_22 : decode cX10_feed 22 = .ok (.bipush (-4), 2) := by decide +kernel
theorem dX10_feed_24 : decode cX10_feed 24 = .ok (.ireturn, 1) := by decide +kernel
theorem dX10_feed_25 : decode cX10_feed 25 = .ok (.aload_n 0, 1) := by decide +kernel
theorem dX10_feed_26 : decode cX10_feed 26 = .ok (.getfield 42, 3) := by decide +kernel
theorem dX10_feed_29 : decode cX10_feed 29 = .ok (.aload_n 0, 1) := by decide +kernel
theorem dX10_feed_30 : decode cX10_feed 30 = .ok (.dup, 1) := by decide +kernel
theorem dX10_feed_31 : decode cX10_feed 31 = .ok (.getfield 85, 3) := by decide +kernel
theorem dX10_feed_34 : decode cX10_feed 34 = .ok (.dup_x1, 1) := by decide +kernel
theorem dX10_feed_35 : decode cX10_feed 35 = .ok (.iconst 1, 1) := by decide +kernel
theorem dX10_feed_36 : decode cX10_feed 36 = .ok (.iadd, 1) := by decide +kernel
theorem dX10_feed_37 : decode cX10_feed 37 = .ok (.putfield 85, 3) := by decide +kernel
theorem dX10_feed_40 : decode cX10_feed 40 = .ok (.iload_n 1, 1) := by decide +kernel
theorem dX10_feed_41 : decode cX10_feed 41 = .ok (.iastore, 1) := by decide +kernel
theorem dX10_feed_42 : decode cX10_feed 42 = .ok (.aload_n 0, 1) := by decide +kernel
theorem dX10_feed_43 : decode cX10_feed 43 = .ok (.getfield 85, 3) := by decide +kernel
theorem dX10_feed_46 : decode cX10_feed 46 = .ok (.ireturn, 1) := by decide +kernel
theorem dX10_signAt_0 : decode cX10_signAt 0 = .ok (.iload_n 1, 1) := by decide +kernel
theorem dX10_signAt_1 : decode cX10_signAt 1 = .ok (.aload_n 0, 1) := by decide +kernel
theorem dX10_signAt_2 : decode cX10_signAt 2 = .ok (.getfield 85, 3) := by decide +kernel
theorem dX10_signAt_5 : decode cX10_signAt 5 = .ok (.if_icmp .ge 12, 3) := by decide +kernel
theorem dX10_signAt_8 : decode cX10_signAt 8 = .ok (.aload_n 0, 1) := by decide +kernel
theorem dX10_signAt_9 : decode cX10_signAt 9 = .ok (.getfield 42, 3) := by decide +kernel
theorem dX10_signAt_12 : decode cX10_signAt 12 = .ok (.iload_n 1, 1) := by decide +kernel
theorem dX10_signAt_13 : decode cX10_signAt 13 = .ok (.iaload, 1) := by decide +kernel
theorem dX10_signAt_14 : decode cX10_signAt 14 = .ok (.goto 4, 3) := by decide +kernel
theorem dX10_signAt_17 : decode cX10_signAt 17 = .ok (.iconst 0, 1) := by decide +kernel
theorem dX10_signAt_18 : decode cX10_signAt 18 = .ok (.ireturn, 1) := by decide +kernel
theorem dX10_wrong_0 : decode cX10_wrong 0 = .ok (.aload_n 0, 1) := by decide +kernel
theorem dX10_wrong_1 : decode cX10_wrong 1 = .ok (.aload_n 0, 1) := by decide +kernel
theorem dX10_wrong_2 : decode cX10_wrong 2 = .ok (.getfield 89, 3) := by decide +kernel
theorem dX10_wrong_5 : decode cX10_wrong 5 = .ok (.ifCond .ge 7, 3) := by decide +kernel
theorem dX10_wrong_8 : decode cX10_wrong 8 = .ok (.iload_n 1, 1) := by decide +kernel
theorem dX10_wrong_9 : decode cX10_wrong 9 = .ok (.goto 7, 3) := by decide +kernel
theorem dX10_wrong_12 : decode cX10_wrong 12 = .ok (.aload_n 0, 1) := by decide +kernel
theorem dX10_wrong_13 : decode cX10_wrong 13 = .ok (.getfield 89, 3) := by decide +kernel
theorem dX10_wrong_16 : decode cX10_wrong 16 = .ok (.putfield 89, 3) := by decide +kernel
theorem dX10_wrong_19 : decode cX10_wrong 19 = .ok (.return_, 1) := by decide +kernel
theorem dX10_must_0 : decode cX10_must 0 = .ok (.aload_n 0, 1) := by decide +kernel
theorem dX10_must_1 : decode cX10_must 1 = .ok (.getfield 89, 3) := by decide +kernel
theorem dX10_must_4 : decode cX10_must 4 = .ok (.ifCond .lt 4, 3) := by decide +kernel
theorem dX10_must_7 : decode cX10_must 7 = .ok (.return_, 1) := by decide +kernel
theorem dX10_must_8 : decode cX10_must 8 = .ok (.aload_n 0, 1) := by decide +kernel
theorem dX10_must_9 : decode cX10_must 9 = .ok (.aload_n 0, 1) := by decide +kernel
theorem dX10_must_10 : decode cX10_must 10 = .ok (.getfield 92, 3) := by decide +kernel
theorem dX10_must_13 : decode cX10_must 13 = .ok (.invokevirtual 95, 3) := by decide +kernel
theorem dX10_must_16 : decode cX10_must 16 = .ok (.iload_n 1, 1) := by decide +kernel
theorem dX10_must_17 : decode cX10_must 17 = .ok (.if_icmp .ne 27, 3) := by decide +kernel
theorem dX10_must_20 : decode cX10_must 20 = .ok (.aload_n 0, 1) := by decide +kernel
theorem dX10_must_21 : decode cX10_must 21 = .ok (.getfield 92, 3) := by decide +kernel
theorem dX10_must_24 : decode cX10_must 24 = .ok (.aload_n 0, 1) := by decide +kernel
theorem dX10_must_25 : decode cX10_must 25 = .ok (.getfield 85, 3) := by decide +kernel
theorem dX10_must_28 : decode cX10_must 28 = .ok (.if_icmp .ge 16, 3) := by decide +kernel
theorem dX10_must_31 : decode cX10_must 31 = .ok (.aload_n 0, 1) := by decide +kernel
theorem dX10_must_32 : decode cX10_must 32 = .ok (.dup, 1) := by decide +kernel
theorem dX10_must_33 : decode cX10_must 33 = .ok (.getfield 92, 3) := by decide +kernel
theorem dX10_must_36 : decode cX10_must 36 = .ok (.iconst 1, 1) := by decide +kernel
theorem dX10_must_37 : decode cX10_must 37 = .ok (.iadd, 1) := by decide +kernel
theorem dX10_must_38 : decode cX10_must 38 = .ok (.putfield 92, 3) := by decide +kernel
theorem dX10_must_41 : decode cX10_must 41 = .ok (.goto 11, 3) := by decide +kernel
theorem dX10_must_44 : decode cX10_must 44 = .ok (.aload_n 0, 1) := by decide +kernel
theorem dX10_must_45 : decode cX10_must 45 = .ok (.aload_n 0, 1) := by decide +kernel
theorem dX10_must_46 : decode cX10_must 46 = .ok (.getfield 92, 3) := by decide +kernel
theorem dX10_must_49 : decode cX10_must 49 = .ok (.invokevirtual 99, 3) := by decide +kernel
theorem dX10_must_52 : decode cX10_must 52 = .ok (.return_, 1) := by decide +kernel
theorem dX10_wordEnd_0 : decode cX10_wordEnd 0 = .ok (.aload_n 0, 1) := by decide +kernel
theorem dX10_wordEnd_1 : decode cX10_wordEnd 1 = .ok (.getfield 92, 3) := by decide +kernel
theorem dX10_wordEnd_4 : decode cX10_wordEnd 4 = .ok (.istore_n 1, 1) := by decide +kernel
theorem dX10_wordEnd_5 : decode cX10_wordEnd 5 = .ok (.iload_n 1, 1) := by decide +kernel
theorem dX10_wordEnd_6 : decode cX10_wordEnd 6 = .ok (.aload_n 0, 1) := by decide +kernel
theorem dX10_wordEnd_7 : decode cX10_wordEnd 7 = .ok (.getfield 85, 3) := by decide +kernel
theorem dX10_wordEnd_10 : decode cX10_wordEnd 10 = .ok (.if_icmp .ge 25, 3) := by decide +kernel
theorem dX10_wordEnd_13 : decode cX10_wordEnd 13 = .ok (.aload_n 0, 1) := by decide +kernel
theorem dX10_wordEnd_14 : decode cX10_wordEnd 14 = .ok (.getfield 42, 3) := by decide +kernel
theorem dX10_wordEnd_17 : decode cX10_wordEnd 17 = .ok (.iload_n 1, 1) := by decide +kernel
theorem dX10_wordEnd_18 : decode cX10_wordEnd 18 = .ok (.iaload, 1) := by decide +kernel
theorem dX10_wordEnd_19 : decode cX10_wordEnd 19 = .ok (.bipush 97, 2) := by decide +kernel
theorem dX10_wordEnd_21 : decode cX10_wordEnd 21 = .ok (.bipush 122, 2) := by decide +kernel
theorem dX10_wordEnd_23 : decode cX10_wordEnd 23 = .ok (.invokestatic 63, 3) := by decide +kernel
theorem dX10_wordEnd_26 : decode cX10_wordEnd 26 = .ok (.ifCond .eq 9, 3) := by decide +kernel
theorem dX10_wordEnd_29 : decode cX10_wordEnd 29 = .ok (.iinc 1 1, 3) := by decide +kernel
theorem dX10_wordEnd_32 : decode cX10_wordEnd 32 = .ok (.goto (-27), 3) := by decide +kernel
theorem dX10_wordEnd_35 : decode cX10_wordEnd 35 = .ok (.iload_n 1, 1) := by decide +kernel
theorem dX10_wordEnd_36 : decode cX10_wordEnd 36 = .ok (.ireturn, 1) := by decide +kernel
theorem dX10_word_0 : decode cX10_word 0 = .ok (.iconst 0, 1) := by decide +kernel
theorem dX10_word_1 : decode cX10_word 1 = .ok (.istore_n 1, 1) := by decide +kernel
theorem dX10_word_2 : decode cX10_word 2 = .ok (.aload_n 0, 1) := by decide +kernel
theorem dX10_word_3 : decode cX10_word 3 = .ok (.getfield 92, 3) := by decide +kernel
theorem dX10_word_6 : decode cX10_word 6 = .ok (.istore_n 2, 1) := by decide +kernel
theorem dX10_word_7 : decode cX10_word 7 = .ok (.iload_n 2, 1) := by decide +kernel
theorem dX10_word_8 : decode cX10_word 8 = .ok (.aload_n 0, 1) := by decide +kernel
theorem dX10_word_9 : decode cX10_word 9 = .ok (.invokevirtual 103, 3) := by decide +kernel
theorem dX10_word_12 : decode cX10_word 12 = .ok (.if_icmp .ge 41, 3) := by decide +kernel
theorem dX10_word_15 : decode cX10_word 15 = .ok (.iload_n 2, 1) := by decide +kernel
theorem dX10_word_16 : decode cX10_word 16 = .ok (.aload_n 0, 1) := by decide +kernel
theorem dX10_word_17 : decode cX10_word 17 = .ok (.getfield 92, 3) := by decide +kernel
theorem dX10_word_20 : decode cX10_word 20 = .ok (.isub, 1) := by decide +kernel
theorem dX10_word_21 : decode cX10_word 21 = .ok (.iconst 5, 1) := by decide +kernel
theorem dX10_word_22 : decode cX10_word 22 = .ok (.if_icmp .ge 22, 3) := by decide +kernel
theorem dX10_word_25 : decode cX10_word 25 = .ok (.bipush 32, 2) := by decide +kernel
theorem dX10_word_27 : decode cX10_word 27 = .ok (.iload_n 1, 1) := by decide +kernel
theorem dX10_word_28 : decode cX10_word 28 = .ok (.imul, 1) := by decide +kernel
theorem dX10_word_29 : decode cX10_word 29 = .ok (.aload_n 0, 1) := by decide +kernel
theorem dX10_word_30 : decode cX10_word 30 = .ok (.getfield 42, 3) := by decide +kernel
theorem dX10_word_33 : decode cX10_word 33 = .ok (.iload_n 2, 1) := by decide +kernel
theorem dX10_word_34 : decode cX10_word 34 = .ok (.iaload, 1) := by decide +kernel
theorem dX10_word_35 : decode cX10_word 35 = .ok (.iadd, 1) := by decide +kernel
theorem dX10_word_36 : decode cX10_word 36 = .ok (.bipush 97, 2) := by decide +kernel
theorem dX10_word_38 : decode cX10_word 38 = .ok (.isub, 1) := by decide +kernel
theorem dX10_word_39 : decode cX10_word 39 = .ok (.iconst 1, 1) := by decide +kernel
theorem dX10_word_40 : decode cX10_word 40 = .ok (.iadd, 1) := by decide +kernel
theorem dX10_word_41 : decode cX10_word 41 = .ok (.goto 5, 3) := by decide +kernel
theorem dX10_word_44 : decode cX10_word 44 = .ok (.ldc 107, 2) := by decide +kernel
theorem dX10_word_46 : decode cX10_word 46 = .ok (.istore_n 1, 1) := by decide +kernel
theorem dX10_word_47 : decode cX10_word 47 = .ok (.iinc 2 1, 3) := by decide +kernel
theorem dX10_word_50 : decode cX10_word 50 = .ok (.goto (-43), 3) := by decide +kernel
theorem dX10_word_53 : decode cX10_word 53 = .ok (.iload_n 1, 1) := by decide +kernel
theorem dX10_word_54 : decode cX10_word 54 = .ok (.ireturn, 1) := by decide +kernel
theorem dX10_node_0 : decode cX10_node 0 = .ok (.aload_n 0, 1) := by decide +kernel
theorem dX10_node_1 : decode cX10_node 1 = .ok (.getfield 108, 3) := by decide +kernel
theorem dX10_node_4 : decode cX10_node 4 = .ok (.aload_n 0, 1) := by decide +kernel
theorem dX10_node_5 : decode cX10_node 5 = .ok (.getfield 111, 3) := by decide +kernel
theorem dX10_node_8 : decode cX10_node 8 = .ok (.iadd, 1) := by decide +kernel
theorem dX10_node_9 : decode cX10_node 9 = .ok (.istore 7, 2) := by decide +kernel
theorem dX10_node_11 : decode cX10_node 11 = .ok (.aload_n 0, 1) := by decide +kernel
theorem dX10_node_12 : decode cX10_node 12 = .ok (.getfield 111, 3) := by decide +kernel
theorem dX10_node_15 : decode cX10_node 15 = .ok (.bipush 60, 2) := by decide +kernel
theorem dX10_node_17 : decode cX10_node 17 = .ok (.if_icmp .ge 63, 3) := by decide +kernel
theorem dX10_node_20 : decode cX10_node 20 = .ok (.aload_n 0, 1) := by decide +kernel
theorem dX10_node_21 : decode cX10_node 21 = .ok (.getfield 114, 3) := by decide +kernel
theorem dX10_node_24 : decode cX10_node 24 = .ok (.bipush 8, 2) := by decide +kernel
theorem dX10_node_26 : decode cX10_node 26 = .ok (.if_icmp .ge 54, 3) := by decide +kernel
theorem dX10_node_29 : decode cX10_node 29 = .ok (.aload_n 0, 1) := by decide +kernel
theorem dX10_node_30 : decode cX10_node 30 = .ok (.getfield 24, 3) := by decide +kernel
theorem dX10_node_33 : decode cX10_node 33 = .ok (.iload 7, 2) := by decide +kernel
theorem dX10_node_35 : decode cX10_node 35 = .ok (.iload_n 1, 1) := by decide +kernel
theorem dX10_node_36 : decode cX10_node 36 = .ok (.iastore, 1) := by decide +kernel
theorem dX10_node_37 : decode cX10_node 37 = .ok (.aload_n 0, 1) := by decide +kernel
theorem dX10_node_38 : decode cX10_node 38 = .ok (.getfield 27, 3) := by decide +kernel
theorem dX10_node_41 : decode cX10_node 41 = .ok (.iload 7, 2) := by decide +kernel
theorem dX10_node_43 : decode cX10_node 43 = .ok (.iload_n 2, 1) := by decide +kernel
theorem dX10_node_44 : decode cX10_node 44 = .ok (.iastore, 1) := by decide +kernel
theorem dX10_node_45 : decode cX10_node 45 = .ok (.aload_n 0, 1) := by decide +kernel
theorem dX10_node_46 : decode cX10_node 46 = .ok (.getfield 30, 3) := by decide +kernel
theorem dX10_node_49 : decode cX10_node 49 = .ok (.iload 7, 2) := by decide +kernel
theorem dX10_node_51 : decode cX10_node 51 = .ok (.iload_n 3, 1) := by decide +kernel
theorem dX10_node_52 : decode cX10_node 52 = .ok (.iastore, 1) := by decide +kernel
theorem dX10_node_53 : decode cX10_node 53 = .ok (.aload_n 0, 1) := by decide +kernel
theorem dX10_node_54 : decode cX10_node 54 = .ok (.getfield 33, 3) := by decide +kernel
theorem dX10_node_57 : decode cX10_node 57 = .ok (.iload 7, 2) := by decide +kernel
theorem dX10_node_59 : decode cX10_node 59 = .ok (.iload 4, 2) := by decide +kernel
theorem dX10_node_61 : decode cX10_node 61 = .ok (.iastore, 1) := by decide +kernel
theorem dX10_node_62 : decode cX10_node 62 = .ok (.aload_n 0, 1) := by decide +kernel
theorem dX10_node_63 : decode cX10_node 63 = .ok (.getfield 36, 3) := by decide +kernel
theorem dX10_node_66 : decode cX10_node 66 = .ok (.iload 7, 2) := by decide +kernel
theorem dX10_node_68 : decode cX10_node 68 = .ok (.iload 5, 2) := by decide +kernel
theorem dX10_node_70 : decode cX10_node 70 = .ok (.iastore, 1) := by decide +kernel
theorem dX10_node_71 : decode cX10_node 71 = .ok (.aload_n 0, 1) := by decide +kernel
theorem dX10_node_72 : decode cX10_node 72 = .ok (.getfield 39, 3) := by decide +kernel
theorem dX10_node_75 : decode cX10_node 75 = .ok (.iload 7, 2) := by decide +kernel
theorem dX10_node_77 : decode cX10_node 77 = .ok (.iload 6, 2) := by decide +kernel
theorem dX10_node_79 : decode cX10_node 79 = .ok (.iastore, 1) := by decide +kernel
theorem dX10_node_80 : decode cX10_node 80 = .ok (.aload_n 0, 1) := by decide +kernel
theorem dX10_node_81 : decode cX10_node 81 = .ok (.dup, 1) := by decide +kernel
theorem dX10_node_82 : decode cX10_node 82 = .ok (.getfield 111, 3) := by decide +kernel
theorem dX10_node_85 : decode cX10_node 85 = .ok (.iconst 1, 1) := by decide +kernel
theorem dX10_node_86 : decode cX10_node 86 = .ok (.iadd, 1) := by decide +kernel
theorem dX10_node_87 : decode cX10_node 87 = .ok (.putfield 111, 3) := by decide +kernel
theorem dX10_node_90 : decode cX10_node 90 = .ok (.iload 7, 2) := by decide +kernel
theorem dX10_node_92 : decode cX10_node 92 = .ok (.ireturn, 1) := by decide +kernel
theorem dX10_value_0 : decode cX10_value 0 = .ok (.aload_n 0, 1) := by decide +kernel
theorem dX10_value_1 : decode cX10_value 1 = .ok (.aload_n 0, 1) := by decide +kernel
theorem dX10_value_2 : decode cX10_value 2 = .ok (.getfield 92, 3) := by decide +kernel
theorem dX10_value_5 : decode cX10_value 5 = .ok (.invokevirtual 95, 3) := by decide +kernel
theorem dX10_value_8 : decode cX10_value 8 = .ok (.istore_n 1, 1) := by decide +kernel
theorem dX10_value_9 : decode cX10_value 9 = .ok (.aload_n 0, 1) := by decide +kernel
theorem dX10_value_10 : decode cX10_value 10 = .ok (.getfield 89, 3) := by decide +kernel
theorem dX10_value_13 : decode cX10_value 13 = .ok (.ifCond .ge 25, 3) := by decide +kernel
theorem dX10_value_16 : decode cX10_value 16 = .ok (.aload_n 0, 1) := by decide +kernel
theorem dX10_value_17 : decode cX10_value 17 = .ok (.getfield 92, 3) := by decide +kernel
theorem dX10_value_20 : decode cX10_value 20 = .ok (.aload_n 0, 1) := by decide +kernel
theorem dX10_value_21 : decode cX10_value 21 = .ok (.getfield 85, 3) := by decide +kernel
theorem dX10_value_24 : decode cX10_value 24 = .ok (.if_icmp .ge 14, 3) := by decide +kernel
theorem dX10_value_27 : decode cX10_value 27 = .ok (.iload_n 1, 1) := by decide +kernel
theorem dX10_value_28 : decode cX10_value 28 = .ok (.bipush 48, 2) := by decide +kernel
theorem dX10_value_30 : decode cX10_value 30 = .ok (.bipush 57, 2) := by decide +kernel
theorem dX10_value_32 : decode cX10_value 32 = .ok (.invokestatic 63, 3) := by decide +kernel
theorem dX10_value_35 : decode cX10_value 35 = .ok (.ifCond .ne 13, 3) := by decide +kernel
theorem dX10_value_38 : decode cX10_value 38 = .ok (.aload_n 0, 1) := by decide +kernel
theorem dX10_value_39 : decode cX10_value 39 = .ok (.aload_n 0, 1) := by decide +kernel
theorem dX10_value_40 : decode cX10_value 40 = .ok (.getfield 92, 3) := by decide +kernel
theorem dX10_value_43 : decode cX10_value 43 = .ok (.invokevirtual 99, 3) := by decide +kernel
theorem dX10_value_46 : decode cX10_value 46 = .ok (.iconst 0, 1) := by decide +kernel
theorem dX10_value_47 : decode cX10_value 47 = .ok (.ireturn, 1) := by decide +kernel
theorem dX10_value_48 : decode cX10_value 48 = .ok (.aload_n 0, 1) := by decide +kernel
theorem dX10_value_49 : decode cX10_value 49 = .ok (.dup, 1) := by decide +kernel
theorem dX10_value_50 : decode cX10_value 50 = .ok (.getfield 92, 3) := by decide +kernel
theorem dX10_value_53 : decode cX10_value 53 = .ok (.iconst 1, 1) := by decide +kernel
theorem dX10_value_54 : decode cX10_value 54 = .ok (.iadd, 1) := by decide +kernel
theorem dX10_value_55 : decode cX10_value 55 = .ok (.putfield 92, 3) := by decide +kernel
theorem dX10_value_58 : decode cX10_value 58 = .ok (.iload_n 1, 1) := by decide +kernel
theorem dX10_value_59 : decode cX10_value 59 = .ok (.bipush 48, 2) := by decide +kernel
theorem dX10_value_61 : decode cX10_value 61 = .ok (.isub, 1) := by decide +kernel
theorem dX10_value_62 : decode cX10_value 62 = .ok (.istore_n 2, 1) := by decide +kernel
theorem dX10_value_63 : decode cX10_value 63 = .ok (.aload_n 0, 1) := by decide +kernel
theorem dX10_value_64 : decode cX10_value 64 = .ok (.getfield 92, 3) := by decide +kernel
theorem dX10_value_67 : decode cX10_value 67 = .ok (.aload_n 0, 1) := by decide +kernel
theorem dX10_value_68 : decode cX10_value 68 = .ok (.getfield 85, 3) := by decide +kernel
theorem dX10_value_71 : decode cX10_value 71 = .ok (.if_icmp .ge 64, 3) := by decide +kernel
theorem dX10_value_74 : decode cX10_value 74 = .ok (.aload_n 0, 1) := by decide +kernel
theorem dX10_value_75 : decode cX10_value 75 = .ok (.getfield 42, 3) := by decide +kernel
theorem dX10_value_78 : decode cX10_value 78 = .ok (.aload_n 0, 1) := by decide +kernel
theorem dX10_value_79 : decode cX10_value 79 = .ok (.getfield 92, 3) := by decide +kernel
theorem dX10_value_82 : decode cX10_value 82 = .ok (.iaload, 1) := by decide +kernel
theorem dX10_value_83 : decode cX10_value 83 = .ok (.bipush 48, 2) := by decide +kernel
theorem dX10_value_85 : decode cX10_value 85 = .ok (.bipush 57, 2) := by decide +kernel
theorem dX10_value_87 : decode cX10_value 87 = .ok (.invokestatic 63, 3) := by decide +kernel
theorem dX10_value_90 : decode cX10_value 90 = .ok (.ifCond .eq 45, 3) := by decide +kernel
theorem dX10_value_93 : decode cX10_value 93 = .ok (.bipush 10, 2) := by decide +kernel
theorem dX10_value_95 : decode cX10_value 95 = .ok (.iload_n 2, 1) := by decide +kernel
theorem dX10_value_96 : decode cX10_value 96 = .ok (.imul, 1) := by decide +kernel
theorem dX10_value_97 : decode cX10_value 97 = .ok (.aload_n 0, 1) := by decide +kernel
theorem dX10_value_98 : decode cX10_value 98 = .ok (.getfield 42, 3) := by decide +kernel
theorem dX10_value_101 : decode cX10_value 101 = .ok (.aload_n 0, 1) := by decide +kernel
theorem dX10_value_102 : decode cX10_value 102 = .ok (.getfield 92, 3) := by decide +kernel
theorem dX10_value_105 : decode cX10_value 105 = .ok (.iaload, 1) := by decide +kernel
theorem dX10_value_106 : decode cX10_value 106 = .ok (.iadd, 1) := by decide +kernel
theorem dX10_value_107 : decode cX10_value 107 = .ok (.bipush 48, 2) := by decide +kernel
theorem dX10_value_109 : decode cX10_value 109 = .ok (.isub, 1) := by decide +kernel
theorem dX10_value_110 : decode cX10_value 110 = .ok (.istore_n 2, 1) := by decide +kernel
theorem dX10_value_111 : decode cX10_value 111 = .ok (.iload_n 2, 1) := by decide +kernel
theorem dX10_value_112 : decode cX10_value 112 = .ok (.bipush 15, 2) := by decide +kernel
theorem dX10_value_114 : decode cX10_value 114 = .ok (.if_icmp .le 11, 3) := by decide +kernel
theorem dX10_value_117 : decode cX10_value 117 = .ok (.aload_n 0, 1) := by decide +kernel
theorem dX10_value_118 : decode cX10_value 118 = .ok (.aload_n 0, 1) := by decide +kernel
theorem dX10_value_119 : decode cX10_value 119 = .ok (.getfield 92, 3) := by decide +kernel
theorem dX10_value_122 : decode cX10_value 122 = .ok (.invokevirtual 99, 3) := by decide +kernel
theorem dX10_value_125 : decode cX10_value 125 = .ok (.aload_n 0, 1) := by decide +kernel
theorem dX10_value_126 : decode cX10_value 126 = .ok (.dup, 1) := by decide +kernel
theorem dX10_value_127 : decode cX10_value 127 = .ok (.getfield 92, 3) := by decide +kernel
theorem dX10_value_130 : decode cX10_value 130 = .ok (.iconst 1, 1) := by decide +kernel
theorem dX10_value_131 : decode cX10_value 131 = .ok (.iadd, 1) := by decide +kernel
theorem dX10_value_132 : decode cX10_value 132 = .ok (.putfield 92, 3) := by decide +kernel
theorem dX10_value_135 : decode cX10_value 135 = .ok (.iload_n 2, 1) := by decide +kernel
theorem dX10_value_136 : decode cX10_value 136 = .ok (.ireturn, 1) := by decide +kernel
theorem dX10_columnHere_0 : decode cX10_columnHere 0 = .ok (.aload_n 0, 1) := by decide +kernel
theorem dX10_columnHere_1 : decode cX10_columnHere 1 = .ok (.dup, 1) := by decide +kernel
theorem dX10_columnHere_2 : decode cX10_columnHere 2 = .ok (.getfield 92, 3) := by decide +kernel
theorem dX10_columnHere_5 : decode cX10_columnHere 5 = .ok (.iconst 1, 1) := by decide +kernel
theorem dX10_columnHere_6 : decode cX10_columnHere 6 = .ok (.iadd, 1) := by decide +kernel
theorem dX10_columnHere_7 : decode cX10_columnHere 7 = .ok (.putfield 92, 3) := by decide +kernel
theorem dX10_columnHere_10 : decode cX10_columnHere 10 = .ok (.aload_n 0, 1) := by decide +kernel
theorem dX10_columnHere_11 : decode cX10_columnHere 11 = .ok (.bipush 32, 2) := by decide +kernel
theorem dX10_columnHere_13 : decode cX10_columnHere 13 = .ok (.invokevirtual 117, 3) := by decide +kernel
theorem dX10_columnHere_16 : decode cX10_columnHere 16 = .ok (.aload_n 0, 1) := by decide +kernel
theorem dX10_columnHere_17 : decode cX10_columnHere 17 = .ok (.getfield 89, 3) := by decide +kernel
theorem dX10_columnHere_20 : decode cX10_columnHere 20 = .ok (.ifCond .lt 5, 3) := by decide +kernel
theorem dX10_columnHere_23 : decode cX10_columnHere 23 = .ok (.iconst 0, 1) := by decide +kernel
theorem dX10_columnHere_24 : decode cX10_columnHere 24 = .ok (.ireturn, 1) := by decide +kernel
theorem dX10_columnHere_25 : decode cX10_columnHere 25 = .ok (.aload_n 0, 1) := by decide +kernel
theorem dX10_columnHere_26 : decode cX10_columnHere 26 = .ok (.invokevirtual 120, 3) := by decide +kernel
theorem dX10_columnHere_29 : decode cX10_columnHere 29 = .ok (.istore_n 2, 1) := by decide +kernel
theorem dX10_columnHere_30 : decode cX10_columnHere 30 = .ok (.iload_n 2, 1) := by decide +kernel
theorem dX10_columnHere_31 : decode cX10_columnHere 31 = .ok (.sipush 307, 3) := by decide +kernel
theorem dX10_columnHere_34 : decode cX10_columnHere 34 = .ok (.if_icmp .eq 16, 3) := by decide +kernel
theorem dX10_columnHere_37 : decode cX10_columnHere 37 = .ok (.iload_n 2, 1) := by decide +kernel
theorem dX10_columnHere_38 : decode cX10_columnHere 38 = .ok (.ldc 123, 2) := by decide +kernel
theorem dX10_columnHere_40 : decode cX10_columnHere 40 = .ok (.if_icmp .eq 10, 3) := by decide +kernel
theorem dX10_columnHere_43 : decode cX10_columnHere 43 = .ok (.iload_n 2, 1) := by decide +kernel
theorem dX10_columnHere_44 : decode cX10_columnHere 44 = .ok (.sipush 302, 3) := by decide +kernel
theorem dX10_columnHere_47 : decode cX10_columnHere 47 = .ok (.if_icmp .ne 77, 3) := by decide +kernel
theorem dX10_columnHere_50 : decode cX10_columnHere 50 = .ok (.aload_n 0, 1) := by decide +kernel
theorem dX10_columnHere_51 : decode cX10_columnHere 51 = .ok (.aload_n 0, 1) := by decide +kernel
theorem dX10_columnHere_52 : decode cX10_columnHere 52 = .ok (.invokevirtual 103, 3) := by decide +kernel
theorem dX10_columnHere_55 : decode cX10_columnHere 55 = .ok (.putfield 92, 3) := by decide +kernel
theorem dX10_columnHere_58 : decode cX10_columnHere 58 = .ok (.aload_n 0, 1) := by decide +kernel
theorem dX10_columnHere_59 : decode cX10_columnHere 59 = .ok (.bipush 32, 2) := by decide +kernel
theorem dX10_columnHere_61 : decode cX10_columnHere 61 = .ok (.invokevirtual 117, 3) := by decide +kernel
theorem dX10_columnHere_64 : decode cX10_columnHere 64 = .ok (.aload_n 0, 1) := by decide +kernel
theorem dX10_columnHere_65 : decode cX10_columnHere 65 = .ok (.invokevirtual 124, 3) := by decide +kernel
theorem dX10_columnHere_68 : decode cX10_columnHere 68 = .ok (.istore_n 3, 1) := by decide +kernel
theorem dX10_columnHere_69 : decode cX10_columnHere 69 = .ok (.iload_n 2, 1) := by decide +kernel
theorem dX10_columnHere_70 : decode cX10_columnHere 70 = .ok (.sipush 302, 3) := by decide +kernel
theorem dX10_columnHere_73 : decode cX10_columnHere 73 = .ok (.if_icmp .eq 25, 3) := by decide +kernel
theorem dX10_columnHere_76 : decode cX10_columnHere 76 = .ok (.aload_n 0, 1) := by decide +kernel
theorem dX10_columnHere_77 : decode cX10_columnHere 77 = .ok (.iload_n 2, 1) := by decide +kernel
theorem dX10_columnHere_78 : decode cX10_columnHere 78 = .ok (.sipush 307, 3) := by decide +kernel
theorem dX10_columnHere_81 : decode cX10_columnHere 81 = .ok (.if_icmp .ne 7, 3) := by decide +kernel
theorem dX10_columnHere_84 : decode cX10_columnHere 84 = .ok (.iconst 1, 1) := by decide +kernel
theorem dX10_columnHere_85 : decode cX10_columnHere 85 = .ok (.goto 4, 3) := by decide +kernel
theorem dX10_columnHere_88 : decode cX10_columnHere 88 = .ok (.iconst 2, 1) := by decide +kernel
theorem dX10_columnHere_89 : decode cX10_columnHere 89 = .ok (.iload_n 1, 1) := by decide +kernel
theorem dX10_columnHere_90 : decode cX10_columnHere 90 = .ok (.iload_n 3, 1) := by decide +kernel
theorem dX10_columnHere_91 : decode cX10_columnHere 91 = .ok (.iload_n 3, 1) := by decide +kernel
theorem dX10_columnHere_92 : decode cX10_columnHere 92 = .ok (.iconst 0, 1) := by decide +kernel
theorem dX10_columnHere_93 : decode cX10_columnHere 93 = .ok (.iconst 0, 1) := by decide +kernel
theorem dX10_columnHere_94 : decode cX10_columnHere 94 = .ok (.invokevirtual 127, 3) := by decide +kernel
theorem dX10_columnHere_97 : decode cX10_columnHere 97 = .ok (.ireturn, 1) := by decide +kernel
theorem dX10_columnHere_98 : decode cX10_columnHere 98 = .ok (.aload_n 0, 1) := by decide +kernel
theorem dX10_columnHere_99 : decode cX10_columnHere 99 = .ok (.bipush 46, 2) := by decide +kernel
theorem dX10_columnHere_101 : decode cX10_columnHere 101 = .ok (.invokevirtual 117, 3) := by decide +kernel
theorem dX10_columnHere_104 : decode cX10_columnHere 104 = .ok (.aload_n 0, 1) := by decide +kernel
theorem dX10_columnHere_105 : decode cX10_columnHere 105 = .ok (.bipush 46, 2) := by decide +kernel
theorem dX10_columnHere_107 : decode cX10_columnHere 107 = .ok (.invokevirtual 117, 3) := by decide +kernel
theorem dX10_columnHere_110 : decode cX10_columnHere 110 = .ok (.aload_n 0, 1) := by decide +kernel
theorem dX10_columnHere_111 : decode cX10_columnHere 111 = .ok (.iconst 3, 1) := by decide +kernel
theorem dX10_columnHere_112 : decode cX10_columnHere 112 = .ok (.iload_n 1, 1) := by decide +kernel
theorem dX10_columnHere_113 : decode cX10_columnHere 113 = .ok (.iload_n 3, 1) := by decide +kernel
theorem dX10_columnHere_114 : decode cX10_columnHere 114 = .ok (.aload_n 0, 1) := by decide +kernel
theorem dX10_columnHere_115 : decode cX10_columnHere 115 = .ok (.invokevirtual 124, 3) := by decide +kernel
theorem dX10_columnHere_118 : decode cX10_columnHere 118 = .ok (.iconst 0, 1) := by decide +kernel
theorem dX10_columnHere_119 : decode cX10_columnHere 119 = .ok (.iconst 0, 1) := by decide +kernel
theorem dX10_columnHere_120 : decode cX10_columnHere 120 = .ok (.invokevirtual 127, 3) := by decide +kernel
theorem dX10_columnHere_123 : decode cX10_columnHere 123 = .ok (.ireturn, 1) := by decide +kernel
theorem dX10_columnHere_124 : decode cX10_columnHere 124 = .ok (.aload_n 0, 1) := by decide +kernel
theorem dX10_columnHere_125 : decode cX10_columnHere 125 = .ok (.aload_n 0, 1) := by decide +kernel
theorem dX10_columnHere_126 : decode cX10_columnHere 126 = .ok (.getfield 92, 3) := by decide +kernel
theorem dX10_columnHere_129 : decode cX10_columnHere 129 = .ok (.invokevirtual 99, 3) := by decide +kernel
theorem dX10_columnHere_132 : decode cX10_columnHere 132 = .ok (.iconst 0, 1) := by decide +kernel
theorem dX10_columnHere_133 : decode cX10_columnHere 133 = .ok (.ireturn, 1) := by decide +kernel
theorem dX10_factor_0 : decode cX10_factor 0 = .ok (.aload_n 0, 1) := by decide +kernel
theorem dX10_factor_1 : decode cX10_factor 1 = .ok (.getfield 89, 3) := by decide +kernel
theorem dX10_factor_4 : decode cX10_factor 4 = .ok (.ifCond .lt 5, 3) := by decide +kernel
theorem dX10_factor_7 : decode cX10_factor 7 = .ok (.iconst 0, 1) := by decide +kernel
theorem dX10_factor_8 : decode cX10_factor 8 = .ok (.ireturn, 1) := by decide +kernel
theorem dX10_factor_9 : decode cX10_factor 9 = .ok (.aload_n 0, 1) := by decide +kernel
theorem dX10_factor_10 : decode cX10_factor 10 = .ok (.aload_n 0, 1) := by decide +kernel
theorem dX10_factor_11 : decode cX10_factor 11 = .ok (.getfield 92, 3) := by decide +kernel
theorem dX10_factor_14 : decode cX10_factor 14 = .ok (.invokevirtual 95, 3) := by decide +kernel
theorem dX10_factor_17 : decode cX10_factor 17 = .ok (.bipush 40, 2) := by decide +kernel
theorem dX10_factor_19 : decode cX10_factor 19 = .ok (.if_icmp .ne 98, 3) := by decide +kernel
theorem dX10_factor_22 : decode cX10_factor 22 = .ok (.aload_n 0, 1) := by decide +kernel
theorem dX10_factor_23 : decode cX10_factor 23 = .ok (.getfield 92, 3) := by decide +kernel
theorem dX10_factor_26 : decode cX10_factor 26 = .ok (.aload_n 0, 1) := by decide +kernel
theorem dX10_factor_27 : decode cX10_factor 27 = .ok (.getfield 85, 3) := by decide +kernel
theorem dX10_factor_30 : decode cX10_factor 30 = .ok (.if_icmp .ge 87, 3) := by decide +kernel
theorem dX10_factor_33 : decode cX10_factor 33 = .ok (.iload_n 1, 1) := by decide +kernel
theorem dX10_factor_34 : decode cX10_factor 34 = .ok (.bipush 6, 2) := by decide +kernel
theorem dX10_factor_36 : decode cX10_factor 36 = .ok (.if_icmp .ne 13, 3) := by decide +kernel
theorem dX10_factor_39 : decode cX10_factor 39 = .ok (.aload_n 0, 1) := by decide +kernel
theorem dX10_factor_40 : decode cX10_factor 40 = .ok (.aload_n 0, 1) := by decide +kernel
theorem dX10_factor_41 : decode cX10_factor 41 = .ok (.getfield 92, 3) := by decide +kernel
theorem dX10_factor_44 : decode cX10_factor 44 = .ok (.invokevirtual 99, 3) := by decide +kernel
theorem dX10_factor_47 : decode cX10_factor 47 = .ok (.iconst 0, 1) := by decide +kernel
theorem dX10_factor_48 : decode cX10_factor 48 = .ok (.ireturn, 1) := by decide +kernel
theorem dX10_factor_49 : decode cX10_factor 49 = .ok (.aload_n 0, 1) := by decide +kernel
theorem dX10_factor_50 : decode cX10_factor 50 = .ok (.dup, 1) := by decide +kernel
theorem dX10_factor_51 : decode cX10_factor 51 = .ok (.getfield 92, 3) := by decide +kernel
theorem dX10_factor_54 : decode cX10_factor 54 = .ok (.iconst 1, 1) := by decide +kernel
theorem dX10_factor_55 : decode cX10_factor 55 = .ok (.iadd, 1) := by decide +kernel
theorem dX10_factor_56 : decode cX10_factor 56 = .ok (.putfield 92, 3) := by decide +kernel
theorem dX10_factor_59 : decode cX10_factor 59 = .ok (.aload_n 0, 1) := by decide +kernel
theorem dX10_factor_60 : decode cX10_factor 60 = .ok (.iload_n 1, 1) := by decide +kernel
theorem dX10_factor_61 : decode cX10_factor 61 = .ok (.iconst 1, 1) := by decide +kernel
theorem dX10_factor_62 : decode cX10_factor 62 = .ok (.iadd, 1) := by decide +kernel
theorem dX10_factor_63 : decode cX10_factor 63 = .ok (.invokevirtual 131, 3) := by decide +kernel
theorem dX10_factor_66 : decode cX10_factor 66 = .ok (.istore_n 2, 1) := by decide +kernel
theorem dX10_factor_67 : decode cX10_factor 67 = .ok (.aload_n 0, 1) := by decide +kernel
theorem dX10_factor_68 : decode cX10_factor 68 = .ok (.getfield 89, 3) := by decide +kernel
theorem dX10_factor_71 : decode cX10_factor 71 = .ok (.ifCond .ge 38, 3) := by decide +kernel
theorem dX10_factor_74 : decode cX10_factor 74 = .ok (.aload_n 0, 1) := by decide +kernel
theorem dX10_factor_75 : decode cX10_factor 75 = .ok (.getfield 92, 3) := by decide +kernel
theorem dX10_factor_78 : decode cX10_factor 78 = .ok (.aload_n 0, 1) := by decide +kernel
theorem dX10_factor_79 : decode cX10_factor 79 = .ok (.getfield 85, 3) := by decide +kernel
theorem dX10_factor_82 : decode cX10_factor 82 = .ok (.if_icmp .ge 27, 3) := by decide +kernel
theorem dX10_factor_85 : decode cX10_factor 85 = .ok (.aload_n 0, 1) := by decide +kernel
theorem dX10_factor_86 : decode cX10_factor 86 = .ok (.getfield 42, 3) := by decide +kernel
theorem dX10_factor_89 : decode cX10_factor 89 = .ok (.aload_n 0, 1) := by decide +kernel
theorem dX10_factor_90 : decode cX10_factor 90 = .ok (.getfield 92, 3) := by decide +kernel
theorem dX10_factor_93 : decode cX10_factor 93 = .ok (.iaload, 1) := by decide +kernel
theorem dX10_factor_94 : decode cX10_factor 94 = .ok (.bipush 32, 2) := by decide +kernel
theorem dX10_factor_96 : decode cX10_factor 96 = .ok (.if_icmp .ne 13, 3) := by decide +kernel
theorem dX10_factor_99 : decode cX10_factor 99 = .ok (.aload_n 0, 1) := by decide +kernel
theorem dX10_factor_100 : decode cX10_factor 100 = .ok (.aload_n 0, 1) := by decide +kernel
theorem dX10_factor_101 : decode cX10_factor 101 = .ok (.getfield 92, 3) := by decide +kernel
theorem dX10_factor_104 : decode cX10_factor 104 = .ok (.iconst 1, 1) := by decide +kernel
theorem dX10_factor_105 : decode cX10_factor 105 = .ok (.iadd, 1) := by decide +kernel
theorem dX10_factor_106 : decode cX10_factor 106 = .ok (.invokevirtual 99, 3) := by decide +kernel
theorem dX10_factor_109 : decode cX10_factor 109 = .ok (.aload_n 0, 1) := by decide +kernel
theorem dX10_factor_110 : decode cX10_factor 110 = .ok (.bipush 41, 2) := by decide +kernel
theorem dX10_factor_112 : decode cX10_factor 112 = .ok (.invokevirtual 117, 3) := by decide +kernel
theorem dX10_factor_115 : decode cX10_factor 115 = .ok (.iload_n 2, 1) := by decide +kernel
theorem dX10_factor_116 : decode cX10_factor 116 = .ok (.ireturn, 1) := by decide +kernel
theorem dX10_factor_117 : decode cX10_factor 117 = .ok (.aload_n 0, 1) := by decide +kernel
theorem dX10_factor_118 : decode cX10_factor 118 = .ok (.invokevirtual 120, 3) := by decide +kernel
theorem dX10_factor_121 : decode cX10_factor 121 = .ok (.istore_n 2, 1) := by decide +kernel
theorem dX10_factor_122 : decode cX10_factor 122 = .ok (.iload_n 2, 1) := by decide +kernel
theorem dX10_factor_123 : decode cX10_factor 123 = .ok (.sipush 1420, 3) := by decide +kernel
theorem dX10_factor_126 : decode cX10_factor 126 = .ok (.if_icmp .ne 22, 3) := by decide +kernel
theorem dX10_factor_129 : decode cX10_factor 129 = .ok (.aload_n 0, 1) := by decide +kernel
theorem dX10_factor_130 : decode cX10_factor 130 = .ok (.aload_n 0, 1) := by decide +kernel
theorem dX10_factor_131 : decode cX10_factor 131 = .ok (.invokevirtual 103, 3) := by decide +kernel
theorem dX10_factor_134 : decode cX10_factor 134 = .ok (.putfield 92, 3) := by decide +kernel
theorem dX10_factor_137 : decode cX10_factor 137 = .ok (.aload_n 0, 1) := by decide +kernel
theorem dX10_factor_138 : decode cX10_factor 138 = .ok (.iconst 0, 1) := by decide +kernel
theorem dX10_factor_139 : decode cX10_factor 139 = .ok (.iconst 0, 1) := by decide +kernel
theorem dX10_factor_140 : decode cX10_factor 140 = .ok (.iconst 0, 1) := by decide +kernel
theorem dX10_factor_141 : decode cX10_factor 141 = .ok (.iconst 0, 1) := by decide +kernel
theorem dX10_factor_142 : decode cX10_factor 142 = .ok (.iconst 0, 1) := by decide +kernel
theorem dX10_factor_143 : decode cX10_factor 143 = .ok (.iconst 0, 1) := by decide +kernel
theorem dX10_factor_144 : decode cX10_factor 144 = .ok (.invokevirtual 127, 3) := by decide +kernel
theorem dX10_factor_147 : decode cX10_factor 147 = .ok (.ireturn, 1) := by decide +kernel
theorem dX10_factor_148 : decode cX10_factor 148 = .ok (.iload_n 2, 1) := by decide +kernel
theorem dX10_factor_149 : decode cX10_factor 149 = .ok (.sipush 14836, 3) := by decide +kernel
theorem dX10_factor_152 : decode cX10_factor 152 = .ok (.if_icmp .ne 42, 3) := by decide +kernel
theorem dX10_factor_155 : decode cX10_factor 155 = .ok (.iload_n 1, 1) := by decide +kernel
theorem dX10_factor_156 : decode cX10_factor 156 = .ok (.bipush 6, 2) := by decide +kernel
theorem dX10_factor_158 : decode cX10_factor 158 = .ok (.if_icmp .ge 36, 3) := by decide +kernel
theorem dX10_factor_161 : decode cX10_factor 161 = .ok (.aload_n 0, 1) := by decide +kernel
theorem dX10_factor_162 : decode cX10_factor 162 = .ok (.aload_n 0, 1) := by decide +kernel
theorem dX10_factor_163 : decode cX10_factor 163 = .ok (.invokevirtual 103, 3) := by decide +kernel
theorem dX10_factor_166 : decode cX10_factor 166 = .ok (.putfield 92, 3) := by decide +kernel
theorem dX10_factor_169 : decode cX10_factor 169 = .ok (.aload_n 0, 1) := by decide +kernel
theorem dX10_factor_170 : decode cX10_factor 170 = .ok (.bipush 32, 2) := by decide +kernel
theorem dX10_factor_172 : decode cX10_factor 172 = .ok (.invokevirtual 117, 3) := by decide +kernel
theorem dX10_factor_175 : decode cX10_factor 175 = .ok (.aload_n 0, 1) := by decide +kernel
theorem dX10_factor_176 : decode cX10_factor 176 = .ok (.iload_n 1, 1) := by decide +kernel
theorem dX10_factor_177 : decode cX10_factor 177 = .ok (.iconst 1, 1) := by decide +kernel
theorem dX10_factor_178 : decode cX10_factor 178 = .ok (.iadd, 1) := by decide +kernel
theorem dX10_factor_179 : decode cX10_factor 179 = .ok (.invokevirtual 134, 3) := by decide +kernel
theorem dX10_factor_182 : decode cX10_factor 182 = .ok (.istore_n 3, 1) := by decide +kernel
theorem dX10_factor_183 : decode cX10_factor 183 = .ok (.aload_n 0, 1) := by decide +kernel
theorem dX10_factor_184 : decode cX10_factor 184 = .ok (.iconst 4, 1) := by decide +kernel
theorem dX10_factor_185 : decode cX10_factor 185 = .ok (.iconst 0, 1) := by decide +kernel
theorem dX10_factor_186 : decode cX10_factor 186 = .ok (.iconst 0, 1) := by decide +kernel
theorem dX10_factor_187 : decode cX10_factor 187 = .ok (.iconst 0, 1) := by decide +kernel
theorem dX10_factor_188 : decode cX10_factor 188 = .ok (.iload_n 3, 1) := by decide +kernel
theorem dX10_factor_189 : decode cX10_factor 189 = .ok (.iconst 0, 1) := by decide +kernel
theorem dX10_factor_190 : decode cX10_factor 190 = .ok (.invokevirtual 127, 3) := by decide +kernel
theorem dX10_factor_193 : decode cX10_factor 193 = .ok (.ireturn, 1) := by decide +kernel
theorem dX10_factor_194 : decode cX10_factor 194 = .ok (.iload_n 2, 1) := by decide +kernel
theorem dX10_factor_195 : decode cX10_factor 195 = .ok (.iconst 1, 1) := by decide +kernel
theorem dX10_factor_196 : decode cX10_factor 196 = .ok (.iconst 4, 1) := by decide +kernel
theorem dX10_factor_197 : decode cX10_factor 197 = .ok (.invokestatic 63, 3) := by decide +kernel
theorem dX10_factor_200 : decode cX10_factor 200 = .ok (.ifCond .eq 11, 3) := by decide +kernel
theorem dX10_factor_203 : decode cX10_factor 203 = .ok (.aload_n 0, 1) := by decide +kernel
theorem dX10_factor_204 : decode cX10_factor 204 = .ok (.iload_n 2, 1) := by decide +kernel
theorem dX10_factor_205 : decode cX10_factor 205 = .ok (.iconst 1, 1) := by decide +kernel
theorem dX10_factor_206 : decode cX10_factor 206 = .ok (.isub, 1) := by decide +kernel
theorem dX10_factor_207 : decode cX10_factor 207 = .ok (.invokevirtual 137, 3) := by decide +kernel
theorem dX10_factor_210 : decode cX10_factor 210 = .ok (.ireturn, 1) := by decide +kernel
theorem dX10_factor_211 : decode cX10_factor 211 = .ok (.aload_n 0, 1) := by decide +kernel
theorem dX10_factor_212 : decode cX10_factor 212 = .ok (.aload_n 0, 1) := by decide +kernel
theorem dX10_factor_213 : decode cX10_factor 213 = .ok (.getfield 92, 3) := by decide +kernel
theorem dX10_factor_216 : decode cX10_factor 216 = .ok (.invokevirtual 99, 3) := by decide +kernel
theorem dX10_factor_219 : decode cX10_factor 219 = .ok (.iconst 0, 1) := by decide +kernel
theorem dX10_factor_220 : decode cX10_factor 220 = .ok (.ireturn, 1) := by decide +kernel
theorem dX10_follows_0 : decode cX10_follows 0 = .ok (.aload_n 0, 1) := by decide +kernel
theorem dX10_follows_1 : decode cX10_follows 1 = .ok (.getfield 89, 3) := by decide +kernel
theorem dX10_follows_4 : decode cX10_follows 4 = .ok (.ifCond .ge 28, 3) := by decide +kernel
theorem dX10_follows_7 : decode cX10_follows 7 = .ok (.aload_n 0, 1) := by decide +kernel
theorem dX10_follows_8 : decode cX10_follows 8 = .ok (.getfield 92, 3) := by decide +kernel
theorem dX10_follows_11 : decode cX10_follows 11 = .ok (.aload_n 0, 1) := by decide +kernel
theorem dX10_follows_12 : decode cX10_follows 12 = .ok (.getfield 85, 3) := by decide +kernel
theorem dX10_follows_15 : decode cX10_follows 15 = .ok (.if_icmp .ge 17, 3) := by decide +kernel
theorem dX10_follows_18 : decode cX10_follows 18 = .ok (.aload_n 0, 1) := by decide +kernel
theorem dX10_follows_19 : decode cX10_follows 19 = .ok (.getfield 42, 3) := by decide +kernel
theorem dX10_follows_22 : decode cX10_follows 22 = .ok (.aload_n 0, 1) := by decide +kernel
theorem dX10_follows_23 : decode cX10_follows 23 = .ok (.getfield 92, 3) := by decide +kernel
theorem dX10_follows_26 : decode cX10_follows 26 = .ok (.iaload, 1) := by decide +kernel
theorem dX10_follows_27 : decode cX10_follows 27 = .ok (.bipush 32, 2) := by decide +kernel
theorem dX10_follows_29 : decode cX10_follows 29 = .ok (.if_icmp .eq 5, 3) := by decide +kernel
theorem dX10_follows_32 : decode cX10_follows 32 = .ok (.iconst 0, 1) := by decide +kernel
theorem dX10_follows_33 : decode cX10_follows 33 = .ok (.ireturn, 1) := by decide +kernel
theorem dX10_follows_34 : decode cX10_follows 34 = .ok (.aload_n 0, 1) := by decide +kernel
theorem dX10_follows_35 : decode cX10_follows 35 = .ok (.dup, 1) := by decide +kernel
theorem dX10_follows_36 : decode cX10_follows 36 = .ok (.getfield 92, 3) := by decide +kernel
theorem dX10_follows_39 : decode cX10_follows 39 = .ok (.iconst 1, 1) := by decide +kernel
theorem dX10_follows_40 : decode cX10_follows 40 = .ok (.iadd, 1) := by decide +kernel
theorem dX10_follows_41 : decode cX10_follows 41 = .ok (.putfield 92, 3) := by decide +kernel
theorem dX10_follows_44 : decode cX10_follows 44 = .ok (.aload_n 0, 1) := by decide +kernel
theorem dX10_follows_45 : decode cX10_follows 45 = .ok (.invokevirtual 120, 3) := by decide +kernel
theorem dX10_follows_48 : decode cX10_follows 48 = .ok (.iload_n 1, 1) := by decide +kernel
theorem dX10_follows_49 : decode cX10_follows 49 = .ok (.if_icmp .ne 7, 3) := by decide +kernel
theorem dX10_follows_52 : decode cX10_follows 52 = .ok (.iconst 1, 1) := by decide +kernel
theorem dX10_follows_53 : decode cX10_follows 53 = .ok (.goto 4, 3) := by decide +kernel
theorem dX10_follows_56 : decode cX10_follows 56 = .ok (.iconst 0, 1) := by decide +kernel
theorem dX10_follows_57 : decode cX10_follows 57 = .ok (.istore_n 2, 1) := by decide +kernel
theorem dX10_follows_58 : decode cX10_follows 58 = .ok (.aload_n 0, 1) := by decide +kernel
theorem dX10_follows_59 : decode cX10_follows 59 = .ok (.dup, 1) := by decide +kernel
theorem dX10_follows_60 : decode cX10_follows 60 = .ok (.getfield 92, 3) := by decide +kernel
theorem dX10_follows_63 : decode cX10_follows 63 = .ok (.iconst 1, 1) := by decide +kernel
theorem dX10_follows_64 : decode cX10_follows 64 = .ok (.isub, 1) := by decide +kernel
theorem dX10_follows_65 : decode cX10_follows 65 = .ok (.putfield 92, 3) := by decide +kernel
theorem dX10_follows_68 : decode cX10_follows 68 = .ok (.iload_n 2, 1) := by decide +kernel
theorem dX10_follows_69 : decode cX10_follows 69 = .ok (.ireturn, 1) := by decide +kernel
theorem dX10_both_0 : decode cX10_both 0 = .ok (.aload_n 0, 1) := by decide +kernel
theorem dX10_both_1 : decode cX10_both 1 = .ok (.iload_n 1, 1) := by decide +kernel
theorem dX10_both_2 : decode cX10_both 2 = .ok (.invokevirtual 134, 3) := by decide +kernel
theorem dX10_both_5 : decode cX10_both 5 = .ok (.istore_n 2, 1) := by decide +kernel
theorem dX10_both_6 : decode cX10_both 6 = .ok (.aload_n 0, 1) := by decide +kernel
theorem dX10_both_7 : decode cX10_both 7 = .ok (.sipush 1476, 3) := by decide +kernel
theorem dX10_both_10 : decode cX10_both 10 = .ok (.invokevirtual 140, 3) := by decide +kernel
theorem dX10_both_13 : decode cX10_both 13 = .ok (.ifCond .eq 47, 3) := by decide +kernel
theorem dX10_both_16 : decode cX10_both 16 = .ok (.aload_n 0, 1) := by decide +kernel
theorem dX10_both_17 : decode cX10_both 17 = .ok (.dup, 1) := by decide +kernel
theorem dX10_both_18 : decode cX10_both 18 = .ok (.getfield 92, 3) := by decide +kernel
theorem dX10_both_21 : decode cX10_both 21 = .ok (.iconst 1, 1) := by decide +kernel
theorem dX10_both_22 : decode cX10_both 22 = .ok (.iadd, 1) := by decide +kernel
theorem dX10_both_23 : decode cX10_both 23 = .ok (.putfield 92, 3) := by decide +kernel
theorem dX10_both_26 : decode cX10_both 26 = .ok (.aload_n 0, 1) := by decide +kernel
theorem dX10_both_27 : decode cX10_both 27 = .ok (.aload_n 0, 1) := by decide +kernel
theorem dX10_both_28 : decode cX10_both 28 = .ok (.invokevirtual 103, 3) := by decide +kernel
theorem dX10_both_31 : decode cX10_both 31 = .ok (.putfield 92, 3) := by decide +kernel
theorem dX10_both_34 : decode cX10_both 34 = .ok (.aload_n 0, 1) := by decide +kernel
theorem dX10_both_35 : decode cX10_both 35 = .ok (.bipush 32, 2) := by decide +kernel
theorem dX10_both_37 : decode cX10_both 37 = .ok (.invokevirtual 117, 3) := by decide +kernel
theorem dX10_both_40 : decode cX10_both 40 = .ok (.aload_n 0, 1) := by decide +kernel
theorem dX10_both_41 : decode cX10_both 41 = .ok (.iload_n 1, 1) := by decide +kernel
theorem dX10_both_42 : decode cX10_both 42 = .ok (.invokevirtual 134, 3) := by decide +kernel
theorem dX10_both_45 : decode cX10_both 45 = .ok (.istore_n 3, 1) := by decide +kernel
theorem dX10_both_46 : decode cX10_both 46 = .ok (.aload_n 0, 1) := by decide +kernel
theorem dX10_both_47 : decode cX10_both 47 = .ok (.iconst 5, 1) := by decide +kernel
theorem dX10_both_48 : decode cX10_both 48 = .ok (.iconst 0, 1) := by decide +kernel
theorem dX10_both_49 : decode cX10_both 49 = .ok (.iconst 0, 1) := by decide +kernel
theorem dX10_both_50 : decode cX10_both 50 = .ok (.iconst 0, 1) := by decide +kernel
theorem dX10_both_51 : decode cX10_both 51 = .ok (.iload_n 2, 1) := by decide +kernel
theorem dX10_both_52 : decode cX10_both 52 = .ok (.iload_n 3, 1) := by decide +kernel
theorem dX10_both_53 : decode cX10_both 53 = .ok (.invokevirtual 127, 3) := by decide +kernel
theorem dX10_both_56 : decode cX10_both 56 = .ok (.istore_n 2, 1) := by decide +kernel
theorem dX10_both_57 : decode cX10_both 57 = .ok (.goto (-51), 3) := by decide +kernel
theorem dX10_both_60 : decode cX10_both 60 = .ok (.iload_n 2, 1) := by decide +kernel
theorem dX10_both_61 : decode cX10_both 61 = .ok (.ireturn, 1) := by decide +kernel
theorem dX10_either_0 : decode cX10_either 0 = .ok (.aload_n 0, 1) := by decide +kernel
theorem dX10_either_1 : decode cX10_either 1 = .ok (.iload_n 1, 1) := by decide +kernel
theorem dX10_either_2 : decode cX10_either 2 = .ok (.invokevirtual 143, 3) := by decide +kernel
theorem dX10_either_5 : decode cX10_either 5 = .ok (.istore_n 2, 1) := by decide +kernel
theorem dX10_either_6 : decode cX10_either 6 = .ok (.aload_n 0, 1) := by decide +kernel
theorem dX10_either_7 : decode cX10_either 7 = .ok (.sipush 498, 3) := by decide +kernel
theorem dX10_either_10 : decode cX10_either 10 = .ok (.invokevirtual 140, 3) := by decide +kernel
theorem dX10_either_13 : decode cX10_either 13 = .ok (.ifCond .eq 48, 3) := by decide +kernel
theorem dX10_either_16 : decode cX10_either 16 = .ok (.aload_n 0, 1) := by decide +kernel
theorem dX10_either_17 : decode cX10_either 17 = .ok (.dup, 1) := by decide +kernel
theorem dX10_either_18 : decode cX10_either 18 = .ok (.getfield 92, 3) := by decide +kernel
theorem dX10_either_21 : decode cX10_either 21 = .ok (.iconst 1, 1) := by decide +kernel
theorem dX10_either_22 : decode cX10_either 22 = .ok (.iadd, 1) := by decide +kernel
theorem dX10_either_23 : decode cX10_either 23 = .ok (.putfield 92, 3) := by decide +kernel
theorem dX10_either_26 : decode cX10_either 26 = .ok (.aload_n 0, 1) := by decide +kernel
theorem dX10_either_27 : decode cX10_either 27 = .ok (.aload_n 0, 1) := by decide +kernel
theorem dX10_either_28 : decode cX10_either 28 = .ok (.invokevirtual 103, 3) := by decide +kernel
theorem dX10_either_31 : decode cX10_either 31 = .ok (.putfield 92, 3) := by decide +kernel
theorem dX10_either_34 : decode cX10_either 34 = .ok (.aload_n 0, 1) := by decide +kernel
theorem dX10_either_35 : decode cX10_either 35 = .ok (.bipush 32, 2) := by decide +kernel
theorem dX10_either_37 : decode cX10_either 37 = .ok (.invokevirtual 117, 3) := by decide +kernel
theorem dX10_either_40 : decode cX10_either 40 = .ok (.aload_n 0, 1) := by decide +kernel
theorem dX10_either_41 : decode cX10_either 41 = .ok (.iload_n 1, 1) := by decide +kernel
theorem dX10_either_42 : decode cX10_either 42 = .ok (.invokevirtual 143, 3) := by decide +kernel
theorem dX10_either_45 : decode cX10_either 45 = .ok (.istore_n 3, 1) := by decide +kernel
theorem dX10_either_46 : decode cX10_either 46 = .ok (.aload_n 0, 1) := by decide +kernel
theorem dX10_either_47 : decode cX10_either 47 = .ok (.bipush 6, 2) := by decide +kernel
theorem dX10_either_49 : decode cX10_either 49 = .ok (.iconst 0, 1) := by decide +kernel
theorem dX10_either_50 : decode cX10_either 50 = .ok (.iconst 0, 1) := by decide +kernel
theorem dX10_either_51 : decode cX10_either 51 = .ok (.iconst 0, 1) := by decide +kernel
theorem dX10_either_52 : decode cX10_either 52 = .ok (.iload_n 2, 1) := by decide +kernel
theorem dX10_either_53 : decode cX10_either 53 = .ok (.iload_n 3, 1) := by decide +kernel
theorem dX10_either_54 : decode cX10_either 54 = .ok (.invokevirtual 127, 3) := by decide +kernel
theorem dX10_either_57 : decode cX10_either 57 = .ok (.istore_n 2, 1) := by decide +kernel
theorem dX10_either_58 : decode cX10_either 58 = .ok (.goto (-52), 3) := by decide +kernel
theorem dX10_either_61 : decode cX10_either 61 = .ok (.iload_n 2, 1) := by decide +kernel
theorem dX10_either_62 : decode cX10_either 62 = .ok (.ireturn, 1) := by decide +kernel
theorem dX10_query_0 : decode cX10_query 0 = .ok (.aload_n 0, 1) := by decide +kernel
theorem dX10_query_1 : decode cX10_query 1 = .ok (.getfield 114, 3) := by decide +kernel
theorem dX10_query_4 : decode cX10_query 4 = .ok (.bipush 8, 2) := by decide +kernel
theorem dX10_query_6 : decode cX10_query 6 = .ok (.if_icmp .ne 6, 3) := by decide +kernel
theorem dX10_query_9 : decode cX10_query 9 = .ok (.bipush (-4), 2) := by decide +kernel
theorem dX10_query_11 : decode cX10_query 11 = .ok (.ireturn, 1) := by decide +kernel
theorem dX10_query_12 : decode cX10_query 12 = .ok (.aload_n 0, 1) := by decide +kernel
theorem dX10_query_13 : decode cX10_query 13 = .ok (.iconst 0, 1) := by decide +kernel
theorem dX10_query_14 : decode cX10_query 14 = .ok (.putfield 92, 3) := by decide +kernel
theorem dX10_query_17 : decode cX10_query 17 = .ok (.aload_n 0, 1) := by decide +kernel
theorem dX10_query_18 : decode cX10_query 18 = .ok (.iconst (-1), 1) := by decide +kernel
theorem dX10_query_19 : decode cX10_query 19 = .ok (.putfield 89, 3) := by decide +kernel
theorem dX10_query_22 : decode cX10_query 22 = .ok (.aload_n 0, 1) := by decide +kernel
theorem dX10_query_23 : decode cX10_query 23 = .ok (.iconst 0, 1) := by decide +kernel
theorem dX10_query_24 : decode cX10_query 24 = .ok (.putfield 111, 3) := by decide +kernel
theorem dX10_query_27 : decode cX10_query 27 = .ok (.aload_n 0, 1) := by decide +kernel
theorem dX10_query_28 : decode cX10_query 28 = .ok (.aload_n 0, 1) := by decide +kernel
theorem dX10_query_29 : decode cX10_query 29 = .ok (.getfield 114, 3) := by decide +kernel
theorem dX10_query_32 : decode cX10_query 32 = .ok (.bipush 60, 2) := by decide +kernel
theorem dX10_query_34 : decode cX10_query 34 = .ok (.imul, 1) := by decide +kernel
theorem dX10_query_35 : decode cX10_query 35 = .ok (.putfield 108, 3) := by decide +kernel
theorem dX10_query_38 : decode cX10_query 38 = .ok (.aload_n 0, 1) := by decide +kernel
theorem dX10_query_39 : decode cX10_query 39 = .ok (.iconst 0, 1) := by decide +kernel
theorem dX10_query_40 : decode cX10_query 40 = .ok (.invokevirtual 131, 3) := by decide +kernel
theorem dX10_query_43 : decode cX10_query 43 = .ok (.istore_n 1, 1) := by decide +kernel
theorem dX10_query_44 : decode cX10_query 44 = .ok (.aload_n 0, 1) := by decide +kernel
theorem dX10_query_45 : decode cX10_query 45 = .ok (.getfield 89, 3) := by decide +kernel
theorem dX10_query_48 : decode cX10_query 48 = .ok (.ifCond .ge 45, 3) := by decide +kernel
theorem dX10_query_51 : decode cX10_query 51 = .ok (.aload_n 0, 1) := by decide +kernel
theorem dX10_query_52 : decode cX10_query 52 = .ok (.getfield 92, 3) := by decide +kernel
theorem dX10_query_55 : decode cX10_query 55 = .ok (.aload_n 0, 1) := by decide +kernel
theorem dX10_query_56 : decode cX10_query 56 = .ok (.getfield 85, 3) := by decide +kernel
theorem dX10_query_59 : decode cX10_query 59 = .ok (.if_icmp .ge 34, 3) := by decide +kernel
theorem dX10_query_62 : decode cX10_query 62 = .ok (.aload_n 0, 1) := by decide +kernel
theorem dX10_query_63 : decode cX10_query 63 = .ok (.aload_n 0, 1) := by decide +kernel
theorem dX10_query_64 : decode cX10_query 64 = .ok (.getfield 42, 3) := by decide +kernel
theorem dX10_query_67 : decode cX10_query 67 = .ok (.aload_n 0, 1) := by decide +kernel
theorem dX10_query_68 : decode cX10_query 68 = .ok (.getfield 92, 3) := by decide +kernel
theorem dX10_query_71 : decode cX10_query 71 = .ok (.iaload, 1) := by decide +kernel
theorem dX10_query_72 : decode cX10_query 72 = .ok (.bipush 32, 2) := by decide +kernel
theorem dX10_query_74 : decode cX10_query 74 = .ok (.if_icmp .ne 12, 3) := by decide +kernel
theorem dX10_query_77 : decode cX10_query 77 = .ok (.aload_n 0, 1) := by decide +kernel
theorem dX10_query_78 : decode cX10_query 78 = .ok (.getfield 92, 3) := by decide +kernel
theorem dX10_query_81 : decode cX10_query 81 = .ok (.iconst 1, 1) := by decide +kernel
theorem dX10_query_82 : decode cX10_query 82 = .ok (.iadd, 1) := by decide +kernel
theorem dX10_query_83 : decode cX10_query 83 = .ok (.goto 7, 3) := by decide +kernel
theorem dX10_query_86 : decode cX10_query 86 = .ok (.aload_n 0, 1) := by decide +kernel
theorem dX10_query_87 : decode cX10_query 87 = .ok (.getfield 92, 3) := by decide +kernel
theorem dX10_query_90 : decode cX10_query 90 = .ok (.invokevirtual 99, 3) := by decide +kernel
theorem dX10_query_93 : decode cX10_query 93 = .ok (.aload_n 0, 1) := by decide +kernel
theorem dX10_query_94 : decode cX10_query 94 = .ok (.iconst 0, 1) := by decide +kernel
theorem dX10_query_95 : decode cX10_query 95 = .ok (.putfield 85, 3) := by decide +kernel
theorem dX10_query_98 : decode cX10_query 98 = .ok (.aload_n 0, 1) := by decide +kernel
theorem dX10_query_99 : decode cX10_query 99 = .ok (.getfield 89, 3) := by decide +kernel
theorem dX10_query_102 : decode cX10_query 102 = .ok (.ifCond .lt 11, 3) := by decide +kernel
theorem dX10_query_105 : decode cX10_query 105 = .ok (.bipush (-10), 2) := by decide +kernel
theorem dX10_query_107 : decode cX10_query 107 = .ok (.aload_n 0, 1) := by decide +kernel
theorem dX10_query_108 : decode cX10_query 108 = .ok (.getfield 89, 3) := by decide +kernel
theorem dX10_query_111 : decode cX10_query 111 = .ok (.isub, 1) := by decide +kernel
theorem dX10_query_112 : decode cX10_query 112 = .ok (.ireturn, 1) := by decide +kernel
theorem dX10_query_113 : decode cX10_query 113 = .ok (.aload_n 0, 1) := by decide +kernel
theorem dX10_query_114 : decode cX10_query 114 = .ok (.getfield 21, 3) := by decide +kernel
theorem dX10_query_117 : decode cX10_query 117 = .ok (.aload_n 0, 1) := by decide +kernel
theorem dX10_query_118 : decode cX10_query 118 = .ok (.getfield 114, 3) := by decide +kernel
theorem dX10_query_121 : decode cX10_query 121 = .ok (.iload_n 1, 1) := by decide +kernel
theorem dX10_query_122 : decode cX10_query 122 = .ok (.iastore, 1) := by decide +kernel
theorem dX10_query_123 : decode cX10_query 123 = .ok (.aload_n 0, 1) := by decide +kernel
theorem dX10_query_124 : decode cX10_query 124 = .ok (.dup, 1) := by decide +kernel
theorem dX10_query_125 : decode cX10_query 125 = .ok (.getfield 114, 3) := by decide +kernel
theorem dX10_query_128 : decode cX10_query 128 = .ok (.dup_x1, 1) := by decide +kernel
theorem dX10_query_129 : decode cX10_query 129 = .ok (.iconst 1, 1) := by decide +kernel
theorem dX10_query_130 : decode cX10_query 130 = .ok (.iadd, 1) := by decide +kernel
theorem dX10_query_131 : decode cX10_query 131 = .ok (.putfield 114, 3) := by decide +kernel
theorem dX10_query_134 : decode cX10_query 134 = .ok (.ireturn, 1) := by decide +kernel
theorem dX10_isQuery_0 : decode cX10_isQuery 0 = .ok (.iload_n 1, 1) := by decide +kernel
theorem dX10_isQuery_1 : decode cX10_isQuery 1 = .ok (.iconst 0, 1) := by decide +kernel
theorem dX10_isQuery_2 : decode cX10_isQuery 2 = .ok (.aload_n 0, 1) := by decide +kernel
theorem dX10_isQuery_3 : decode cX10_isQuery 3 = .ok (.getfield 114, 3) := by decide +kernel
theorem dX10_isQuery_6 : decode cX10_isQuery 6 = .ok (.iconst 1, 1) := by decide +kernel
theorem dX10_isQuery_7 : decode cX10_isQuery 7 = .ok (.isub, 1) := by decide +kernel
theorem dX10_isQuery_8 : decode cX10_isQuery 8 = .ok (.invokestatic 63, 3) := by decide +kernel
theorem dX10_isQuery_11 : decode cX10_isQuery 11 = .ok (.ireturn, 1) := by decide +kernel
theorem dX10_isSo_0 : decode cX10_isSo 0 = .ok (.aload_n 0, 1) := by decide +kernel
theorem dX10_isSo_1 : decode cX10_isSo 1 = .ok (.getfield 11, 3) := by decide +kernel
theorem dX10_isSo_4 : decode cX10_isSo 4 = .ok (.iconst 4, 1) := by decide +kernel
theorem dX10_isSo_5 : decode cX10_isSo 5 = .ok (.iload_n 2, 1) := by decide +kernel
theorem dX10_isSo_6 : decode cX10_isSo 6 = .ok (.imul, 1) := by decide +kernel
theorem dX10_isSo_7 : decode cX10_isSo 7 = .ok (.aload_n 0, 1) := by decide +kernel
theorem dX10_isSo_8 : decode cX10_isSo 8 = .ok (.getfield 27, 3) := by decide +kernel
theorem dX10_isSo_11 : decode cX10_isSo 11 = .ok (.iload_n 1, 1) := by decide +kernel
theorem dX10_isSo_12 : decode cX10_isSo 12 = .ok (.iaload, 1) := by decide +kernel
theorem dX10_isSo_13 : decode cX10_isSo 13 = .ok (.iadd, 1) := by decide +kernel
theorem dX10_isSo_14 : decode cX10_isSo 14 = .ok (.iaload, 1) := by decide +kernel
theorem dX10_isSo_15 : decode cX10_isSo 15 = .ok (.istore_n 3, 1) := by decide +kernel
theorem dX10_isSo_16 : decode cX10_isSo 16 = .ok (.aload_n 0, 1) := by decide +kernel
theorem dX10_isSo_17 : decode cX10_isSo 17 = .ok (.getfield 24, 3) := by decide +kernel
theorem dX10_isSo_20 : decode cX10_isSo 20 = .ok (.iload_n 1, 1) := by decide +kernel
theorem dX10_isSo_21 : decode cX10_isSo 21 = .ok (.iaload, 1) := by decide +kernel
theorem dX10_isSo_22 : decode cX10_isSo 22 = .ok (.tableswitch 152 0 5 #[38, 40, 56, 72, 98, 118], 38) := by decide +kernel
theorem dX10_isSo_60 : decode cX10_isSo 60 = .ok (.iconst 1, 1) := by decide +kernel
theorem dX10_isSo_61 : decode cX10_isSo 61 = .ok (.ireturn, 1) := by decide +kernel
theorem dX10_isSo_62 : decode cX10_isSo 62 = .ok (.iload_n 3, 1) := by decide +kernel
theorem dX10_isSo_63 : decode cX10_isSo 63 = .ok (.aload_n 0, 1) := by decide +kernel
theorem dX10_isSo_64 : decode cX10_isSo 64 = .ok (.getfield 30, 3) := by decide +kernel
theorem dX10_isSo_67 : decode cX10_isSo 67 = .ok (.iload_n 1, 1) := by decide +kernel
theorem dX10_isSo_68 : decode cX10_isSo 68 = .ok (.iaload, 1) := by decide +kernel
theorem dX10_isSo_69 : decode cX10_isSo 69 = .ok (.if_icmp .ne 7, 3) := by decide +kernel
theorem dX10_isSo_72 : decode cX10_isSo 72 = .ok (.iconst 1, 1) := by decide +kernel
theorem dX10_isSo_73 : decode cX10_isSo 73 = .ok (.goto 4, 3) := by decide +kernel
theorem dX10_isSo_76 : decode cX10_isSo 76 = .ok (.iconst 0, 1) := by decide +kernel
theorem dX10_isSo_77 : decode cX10_isSo 77 = .ok (.ireturn, 1) := by decide +kernel
theorem dX10_isSo_78 : decode cX10_isSo 78 = .ok (.iload_n 3, 1) := by decide +kernel
theorem dX10_isSo_79 : decode cX10_isSo 79 = .ok (.aload_n 0, 1) := by decide +kernel
theorem dX10_isSo_80 : decode cX10_isSo 80 = .ok (.getfield 30, 3) := by decide +kernel
theorem dX10_isSo_83 : decode cX10_isSo 83 = .ok (.iload_n 1, 1) := by decide +kernel
theorem dX10_isSo_84 : decode cX10_isSo 84 = .ok (.iaload, 1) := by decide +kernel
theorem dX10_isSo_85 : decode cX10_isSo 85 = .ok (.if_icmp .ge 7, 3) := by decide +kernel
theorem dX10_isSo_88 : decode cX10_isSo 88 = .ok (.iconst 1, 1) := by decide +kernel
theorem dX10_isSo_89 : decode cX10_isSo 89 = .ok (.goto 4, 3) := by decide +kernel
theorem dX10_isSo_92 : decode cX10_isSo 92 = .ok (.iconst 0, 1) := by decide +kernel
theorem dX10_isSo_93 : decode cX10_isSo 93 = .ok (.ireturn, 1) := by decide +kernel
theorem dX10_isSo_94 : decode cX10_isSo 94 = .ok (.iload_n 3, 1) := by decide +kernel
theorem dX10_isSo_95 : decode cX10_isSo 95 = .ok (.aload_n 0, 1) := by decide +kernel
theorem dX10_isSo_96 : decode cX10_isSo 96 = .ok (.getfield 30, 3) := by decide +kernel
theorem dX10_isSo_99 : decode cX10_isSo 99 = .ok (.iload_n 1, 1) := by decide +kernel
theorem dX10_isSo_100 : decode cX10_isSo 100 = .ok (.iaload, 1) := by decide +kernel
theorem dX10_isSo_101 : decode cX10_isSo 101 = .ok (.if_icmp .lt 17, 3) := by decide +kernel
theorem dX10_isSo_104 : decode cX10_isSo 104 = .ok (.iload_n 3, 1) := by decide +kernel
theorem dX10_isSo_105 : decode cX10_isSo 105 = .ok (.aload_n 0, 1) := by decide +kernel
theorem dX10_isSo_106 : decode cX10_isSo 106 = .ok (.getfield 33, 3) := by decide +kernel
theorem dX10_isSo_109 : decode cX10_isSo 109 = .ok (.iload_n 1, 1) := by decide +kernel
theorem dX10_isSo_110 : decode cX10_isSo 110 = .ok (.iaload, 1) := by decide +kernel
theorem dX10_isSo_111 : decode cX10_isSo 111 = .ok (.if_icmp .gt 7, 3) := by decide +kernel
theorem dX10_isSo_114 : decode cX10_isSo 114 = .ok (.iconst 1, 1) := by decide +kernel
theorem dX10_isSo_115 : decode cX10_isSo 115 = .ok (.goto 4, 3) := by decide +kernel
theorem dX10_isSo_118 : decode cX10_isSo 118 = .ok (.iconst 0, 1) := by decide +kernel
theorem dX10_isSo_119 : decode cX10_isSo 119 = .ok (.ireturn, 1) := by decide +kernel
theorem dX10_isSo_120 : decode cX10_isSo 120 = .ok (.aload_n 0, 1) := by decide +kernel
theorem dX10_isSo_121 : decode cX10_isSo 121 = .ok (.aload_n 0, 1) := by decide +kernel
theorem dX10_isSo_122 : decode cX10_isSo 122 = .ok (.getfield 36, 3) := by decide +kernel
theorem dX10_isSo_125 : decode cX10_isSo 125 = .ok (.iload_n 1, 1) := by decide +kernel
theorem dX10_isSo_126 : decode cX10_isSo 126 = .ok (.iaload, 1) := by decide +kernel
theorem dX10_isSo_127 : decode cX10_isSo 127 = .ok (.iload_n 2, 1) := by decide +kernel
theorem dX10_isSo_128 : decode cX10_isSo 128 = .ok (.invokevirtual 146, 3) := by decide +kernel
theorem dX10_isSo_131 : decode cX10_isSo 131 = .ok (.ifCond .ne 7, 3) := by decide +kernel
theorem dX10_isSo_134 : decode cX10_isSo 134 = .ok (.iconst 1, 1) := by decide +kernel
theorem dX10_isSo_135 : decode cX10_isSo 135 = .ok (.goto 4, 3) := by decide +kernel
theorem dX10_isSo_138 : decode cX10_isSo 138 = .ok (.iconst 0, 1) := by decide +kernel
theorem dX10_isSo_139 : decode cX10_isSo 139 = .ok (.ireturn, 1) := by decide +kernel
theorem dX10_isSo_140 : decode cX10_isSo 140 = .ok (.aload_n 0, 1) := by decide +kernel
theorem dX10_isSo_141 : decode cX10_isSo 141 = .ok (.aload_n 0, 1) := by decide +kernel
theorem dX10_isSo_142 : decode cX10_isSo 142 = .ok (.getfield 36, 3) := by decide +kernel
theorem dX10_isSo_145 : decode cX10_isSo 145 = .ok (.iload_n 1, 1) := by decide +kernel
theorem dX10_isSo_146 : decode cX10_isSo 146 = .ok (.iaload, 1) := by decide +kernel
theorem dX10_isSo_147 : decode cX10_isSo 147 = .ok (.iload_n 2, 1) := by decide +kernel
theorem dX10_isSo_148 : decode cX10_isSo 148 = .ok (.invokevirtual 146, 3) := by decide +kernel
theorem dX10_isSo_151 : decode cX10_isSo 151 = .ok (.ifCond .eq 21, 3) := by decide +kernel
theorem dX10_isSo_154 : decode cX10_isSo 154 = .ok (.aload_n 0, 1) := by decide +kernel
theorem dX10_isSo_155 : decode cX10_isSo 155 = .ok (.aload_n 0, 1) := by decide +kernel
theorem dX10_isSo_156 : decode cX10_isSo 156 = .ok (.getfield 39, 3) := by decide +kernel
theorem dX10_isSo_159 : decode cX10_isSo 159 = .ok (.iload_n 1, 1) := by decide +kernel
theorem dX10_isSo_160 : decode cX10_isSo 160 = .ok (.iaload, 1) := by decide +kernel
theorem dX10_isSo_161 : decode cX10_isSo 161 = .ok (.iload_n 2, 1) := by decide +kernel
theorem dX10_isSo_162 : decode cX10_isSo 162 = .ok (.invokevirtual 146, 3) := by decide +kernel
theorem dX10_isSo_165 : decode cX10_isSo 165 = .ok (.ifCond .eq 7, 3) := by decide +kernel
theorem dX10_isSo_168 : decode cX10_isSo 168 = .ok (.iconst 1, 1) := by decide +kernel
theorem dX10_isSo_169 : decode cX10_isSo 169 = .ok (.goto 4, 3) := by decide +kernel
theorem dX10_isSo_172 : decode cX10_isSo 172 = .ok (.iconst 0, 1) := by decide +kernel
theorem dX10_isSo_173 : decode cX10_isSo 173 = .ok (.ireturn, 1) := by decide +kernel
theorem dX10_isSo_174 : decode cX10_isSo 174 = .ok (.aload_n 0, 1) := by decide +kernel
theorem dX10_isSo_175 : decode cX10_isSo 175 = .ok (.aload_n 0, 1) := by decide +kernel
theorem dX10_isSo_176 : decode cX10_isSo 176 = .ok (.getfield 36, 3) := by decide +kernel
theorem dX10_isSo_179 : decode cX10_isSo 179 = .ok (.iload_n 1, 1) := by decide +kernel
theorem dX10_isSo_180 : decode cX10_isSo 180 = .ok (.iaload, 1) := by decide +kernel
theorem dX10_isSo_181 : decode cX10_isSo 181 = .ok (.iload_n 2, 1) := by decide +kernel
theorem dX10_isSo_182 : decode cX10_isSo 182 = .ok (.invokevirtual 146, 3) := by decide +kernel
theorem dX10_isSo_185 : decode cX10_isSo 185 = .ok (.ifCond .ne 17, 3) := by decide +kernel
theorem dX10_isSo_188 : decode cX10_isSo 188 = .ok (.aload_n 0, 1) := by decide +kernel
theorem dX10_isSo_189 : decode cX10_isSo 189 = .ok (.aload_n 0, 1) := by decide +kernel
theorem dX10_isSo_190 : decode cX10_isSo 190 = .ok (.getfield 39, 3) := by decide +kernel
theorem dX10_isSo_193 : decode cX10_isSo 193 = .ok (.iload_n 1, 1) := by decide +kernel
theorem dX10_isSo_194 : decode cX10_isSo 194 = .ok (.iaload, 1) := by decide +kernel
theorem dX10_isSo_195 : decode cX10_isSo 195 = .ok (.iload_n 2, 1) := by decide +kernel
theorem dX10_isSo_196 : decode cX10_isSo 196 = .ok (.invokevirtual 146, 3) := by decide +kernel
theorem dX10_isSo_199 : decode cX10_isSo 199 = .ok (.ifCond .eq 7, 3) := by decide +kernel
theorem dX10_isSo_202 : decode cX10_isSo 202 = .ok (.iconst 1, 1) := by decide +kernel
theorem dX10_isSo_203 : decode cX10_isSo 203 = .ok (.goto 4, 3) := by decide +kernel
theorem dX10_isSo_206 : decode cX10_isSo 206 = .ok (.iconst 0, 1) := by decide +kernel
theorem dX10_isSo_207 : decode cX10_isSo 207 = .ok (.ireturn, 1) := by decide +kernel
theorem dX10_resultMany_0 : decode cX10_resultMany 0 = .ok (.iconst 0, 1) := by decide +kernel
theorem dX10_resultMany_1 : decode cX10_resultMany 1 = .ok (.istore_n 2, 1) := by decide +kernel
theorem dX10_resultMany_2 : decode cX10_resultMany 2 = .ok (.iconst 0, 1) := by decide +kernel
theorem dX10_resultMany_3 : decode cX10_resultMany 3 = .ok (.istore_n 3, 1) := by decide +kernel
theorem dX10_resultMany_4 : decode cX10_resultMany 4 = .ok (.iload_n 3, 1) := by decide +kernel
theorem dX10_resultMany_5 : decode cX10_resultMany 5 = .ok (.aload_n 0, 1) := by decide +kernel
theorem dX10_resultMany_6 : decode cX10_resultMany 6 = .ok (.getfield 11, 3) := by decide +kernel
theorem dX10_resultMany_9 : decode cX10_resultMany 9 = .ok (.sipush 480, 3) := by decide +kernel
theorem dX10_resultMany_12 : decode cX10_resultMany 12 = .ok (.iaload, 1) := by decide +kernel
theorem dX10_resultMany_13 : decode cX10_resultMany 13 = .ok (.if_icmp .ge 26, 3) := by decide +kernel
theorem dX10_resultMany_16 : decode cX10_resultMany 16 = .ok (.iload_n 2, 1) := by decide +kernel
theorem dX10_resultMany_17 : decode cX10_resultMany 17 = .ok (.aload_n 0, 1) := by decide +kernel
theorem dX10_resultMany_18 : decode cX10_resultMany 18 = .ok (.iload_n 1, 1) := by decide +kernel
theorem dX10_resultMany_19 : decode cX10_resultMany 19 = .ok (.iload_n 3, 1) := by decide +kernel
theorem dX10_resultMany_20 : decode cX10_resultMany 20 = .ok (.invokevirtual 146, 3) := by decide +kernel
theorem dX10_resultMany_23 : decode cX10_resultMany 23 = .ok (.ifCond .eq 7, 3) := by decide +kernel
theorem dX10_resultMany_26 : decode cX10_resultMany 26 = .ok (.iconst 1, 1) := by decide +kernel
theorem dX10_resultMany_27 : decode cX10_resultMany 27 = .ok (.goto 4, 3) := by decide +kernel
theorem dX10_resultMany_30 : decode cX10_resultMany 30 = .ok (.iconst 0, 1) := by decide +kernel
theorem dX10_resultMany_31 : decode cX10_resultMany 31 = .ok (.iadd, 1) := by decide +kernel
theorem dX10_resultMany_32 : decode cX10_resultMany 32 = .ok (.istore_n 2, 1) := by decide +kernel
theorem dX10_resultMany_33 : decode cX10_resultMany 33 = .ok (.iinc 3 1, 3) := by decide +kernel
theorem dX10_resultMany_36 : decode cX10_resultMany 36 = .ok (.goto (-32), 3) := by decide +kernel
theorem dX10_resultMany_39 : decode cX10_resultMany 39 = .ok (.iload_n 2, 1) := by decide +kernel
theorem dX10_resultMany_40 : decode cX10_resultMany 40 = .ok (.ireturn, 1) := by decide +kernel
theorem dX10_resultRuns_0 : decode cX10_resultRuns 0 = .ok (.iconst 0, 1) := by decide +kernel
theorem dX10_resultRuns_1 : decode cX10_resultRuns 1 = .ok (.istore_n 2, 1) := by decide +kernel
theorem dX10_resultRuns_2 : decode cX10_resultRuns 2 = .ok (.iconst 0, 1) := by decide +kernel
theorem dX10_resultRuns_3 : decode cX10_resultRuns 3 = .ok (.istore_n 3, 1) := by decide +kernel
theorem dX10_resultRuns_4 : decode cX10_resultRuns 4 = .ok (.iload_n 3, 1) := by decide +kernel
theorem dX10_resultRuns_5 : decode cX10_resultRuns 5 = .ok (.aload_n 0, 1) := by decide +kernel
theorem dX10_resultRuns_6 : decode cX10_resultRuns 6 = .ok (.getfield 11, 3) := by decide +kernel
theorem dX10_resultRuns_9 : decode cX10_resultRuns 9 = .ok (.sipush 480, 3) := by decide +kernel
theorem dX10_resultRuns_12 : decode cX10_resultRuns 12 = .ok (.iaload, 1) := by decide +kernel
theorem dX10_resultRuns_13 : decode cX10_resultRuns 13 = .ok (.if_icmp .ge 38, 3) := by decide +kernel
theorem dX10_resultRuns_16 : decode cX10_resultRuns 16 = .ok (.iload_n 2, 1) := by decide +kernel
theorem dX10_resultRuns_17 : decode cX10_resultRuns 17 = .ok (.iload_n 3, 1) := by decide +kernel
theorem dX10_resultRuns_18 : decode cX10_resultRuns 18 = .ok (.ifCond .eq 20, 3) := by decide +kernel
theorem dX10_resultRuns_21 : decode cX10_resultRuns 21 = .ok (.aload_n 0, 1) := by decide +kernel
theorem dX10_resultRuns_22 : decode cX10_resultRuns 22 = .ok (.iload_n 1, 1) := by decide +kernel
theorem dX10_resultRuns_23 : decode cX10_resultRuns 23 = .ok (.iload_n 3, 1) := by decide +kernel
theorem dX10_resultRuns_24 : decode cX10_resultRuns 24 = .ok (.invokevirtual 146, 3) := by decide +kernel
theorem dX10_resultRuns_27 : decode cX10_resultRuns 27 = .ok (.aload_n 0, 1) := by decide +kernel
theorem dX10_resultRuns_28 : decode cX10_resultRuns 28 = .ok (.iload_n 1, 1) := by decide +kernel
theorem dX10_resultRuns_29 : decode cX10_resultRuns 29 = .ok (.iload_n 3, 1) := by decide +kernel
theorem dX10_resultRuns_30 : decode cX10_resultRuns 30 = .ok (.iconst 1, 1) := by decide +kernel
theorem dX10_resultRuns_31 : decode cX10_resultRuns 31 = .ok (.isub, 1) := by decide +kernel
theorem dX10_resultRuns_32 : decode cX10_resultRuns 32 = .ok (.invokevirtual 146, 3) := by decide +kernel
theorem dX10_resultRuns_35 : decode cX10_resultRuns 35 = .ok (.if_icmp .eq 7, 3) := by decide +kernel
theorem dX10_resultRuns_38 : decode cX10_resultRuns 38 = .ok (.iconst 1, 1) := by decide +kernel
theorem dX10_resultRuns_39 : decode cX10_resultRuns 39 = .ok (.goto 4, 3) := by decide +kernel
theorem dX10_resultRuns_42 : decode cX10_resultRuns 42 = .ok (.iconst 0, 1) := by decide +kernel
theorem dX10_resultRuns_43 : decode cX10_resultRuns 43 = .ok (.iadd, 1) := by decide +kernel
theorem dX10_resultRuns_44 : decode cX10_resultRuns 44 = .ok (.istore_n 2, 1) := by decide +kernel
theorem dX10_resultRuns_45 : decode cX10_resultRuns 45 = .ok (.iinc 3 1, 3) := by decide +kernel
theorem dX10_resultRuns_48 : decode cX10_resultRuns 48 = .ok (.goto (-44), 3) := by decide +kernel
theorem dX10_resultRuns_51 : decode cX10_resultRuns 51 = .ok (.iload_n 2, 1) := by decide +kernel
theorem dX10_resultRuns_52 : decode cX10_resultRuns 52 = .ok (.ireturn, 1) := by decide +kernel
theorem dX10_cost_0 : decode cX10_cost 0 = .ok (.aload_n 0, 1) := by decide +kernel
theorem dX10_cost_1 : decode cX10_cost 1 = .ok (.getfield 24, 3) := by decide +kernel
theorem dX10_cost_4 : decode cX10_cost 4 = .ok (.iload_n 1, 1) := by decide +kernel
theorem dX10_cost_5 : decode cX10_cost 5 = .ok (.iaload, 1) := by decide +kernel
theorem dX10_cost_6 : decode cX10_cost 6 = .ok (.tableswitch 97 0 4 #[34, 36, 53, 53, 86], 34) := by decide +kernel
theorem dX10_cost_40 : decode cX10_cost 40 = .ok (.iconst 0, 1) := by decide +kernel
theorem dX10_cost_41 : decode cX10_cost 41 = .ok (.ireturn, 1) := by decide +kernel
theorem dX10_cost_42 : decode cX10_cost 42 = .ok (.aload_n 0, 1) := by decide +kernel
theorem dX10_cost_43 : decode cX10_cost 43 = .ok (.aload_n 0, 1) := by decide +kernel
theorem dX10_cost_44 : decode cX10_cost 44 = .ok (.getfield 27, 3) := by decide +kernel
theorem dX10_cost_47 : decode cX10_cost 47 = .ok (.iload_n 1, 1) := by decide +kernel
theorem dX10_cost_48 : decode cX10_cost 48 = .ok (.iaload, 1) := by decide +kernel
theorem dX10_cost_49 : decode cX10_cost 49 = .ok (.aload_n 0, 1) := by decide +kernel
theorem dX10_cost_50 : decode cX10_cost 50 = .ok (.getfield 30, 3) := by decide +kernel
theorem dX10_cost_53 : decode cX10_cost 53 = .ok (.iload_n 1, 1) := by decide +kernel
theorem dX10_cost_54 : decode cX10_cost 54 = .ok (.iaload, 1) := by decide +kernel
theorem dX10_cost_55 : decode cX10_cost 55 = .ok (.invokevirtual 78, 3) := by decide +kernel
theorem dX10_cost_58 : decode cX10_cost 58 = .ok (.ireturn, 1) := by decide +kernel
theorem dX10_cost_59 : decode cX10_cost 59 = .ok (.iconst 0, 1) := by decide +kernel
theorem dX10_cost_60 : decode cX10_cost 60 = .ok (.istore_n 2, 1) := by decide +kernel
theorem dX10_cost_61 : decode cX10_cost 61 = .ok (.bipush 16, 2) := by decide +kernel
theorem dX10_cost_63 : decode cX10_cost 63 = .ok (.istore_n 3, 1) := by decide +kernel
theorem dX10_cost_64 : decode cX10_cost 64 = .ok (.iload_n 3, 1) := by decide +kernel
theorem dX10_cost_65 : decode cX10_cost 65 = .ok (.bipush 20, 2) := by decide +kernel
theorem dX10_cost_67 : decode cX10_cost 67 = .ok (.if_icmp .ge 23, 3) := by decide +kernel
theorem dX10_cost_70 : decode cX10_cost 70 = .ok (.iload_n 2, 1) := by decide +kernel
theorem dX10_cost_71 : decode cX10_cost 71 = .ok (.aload_n 0, 1) := by decide +kernel
theorem dX10_cost_72 : decode cX10_cost 72 = .ok (.aload_n 0, 1) := by decide +kernel
theorem dX10_cost_73 : decode cX10_cost 73 = .ok (.getfield 27, 3) := by decide +kernel
theorem dX10_cost_76 : decode cX10_cost 76 = .ok (.iload_n 1, 1) := by decide +kernel
theorem dX10_cost_77 : decode cX10_cost 77 = .ok (.iaload, 1) := by decide +kernel
theorem dX10_cost_78 : decode cX10_cost 78 = .ok (.iload_n 3, 1) := by decide +kernel
theorem dX10_cost_79 : decode cX10_cost 79 = .ok (.invokevirtual 78, 3) := by decide +kernel
theorem dX10_cost_82 : decode cX10_cost 82 = .ok (.iadd, 1) := by decide +kernel
theorem dX10_cost_83 : decode cX10_cost 83 = .ok (.istore_n 2, 1) := by decide +kernel
theorem dX10_cost_84 : decode cX10_cost 84 = .ok (.iinc 3 1, 3) := by decide +kernel
theorem dX10_cost_87 : decode cX10_cost 87 = .ok (.goto (-23), 3) := by decide +kernel
theorem dX10_cost_90 : decode cX10_cost 90 = .ok (.iload_n 2, 1) := by decide +kernel
theorem dX10_cost_91 : decode cX10_cost 91 = .ok (.ireturn, 1) := by decide +kernel
theorem dX10_cost_92 : decode cX10_cost 92 = .ok (.aload_n 0, 1) := by decide +kernel
theorem dX10_cost_93 : decode cX10_cost 93 = .ok (.aload_n 0, 1) := by decide +kernel
theorem dX10_cost_94 : decode cX10_cost 94 = .ok (.getfield 36, 3) := by decide +kernel
theorem dX10_cost_97 : decode cX10_cost 97 = .ok (.iload_n 1, 1) := by decide +kernel
theorem dX10_cost_98 : decode cX10_cost 98 = .ok (.iaload, 1) := by decide +kernel
theorem dX10_cost_99 : decode cX10_cost 99 = .ok (.invokevirtual 150, 3) := by decide +kernel
theorem dX10_cost_102 : decode cX10_cost 102 = .ok (.ireturn, 1) := by decide +kernel
theorem dX10_cost_103 : decode cX10_cost 103 = .ok (.aload_n 0, 1) := by decide +kernel
theorem dX10_cost_104 : decode cX10_cost 104 = .ok (.aload_n 0, 1) := by decide +kernel
theorem dX10_cost_105 : decode cX10_cost 105 = .ok (.getfield 36, 3) := by decide +kernel
theorem dX10_cost_108 : decode cX10_cost 108 = .ok (.iload_n 1, 1) := by decide +kernel
theorem dX10_cost_109 : decode cX10_cost 109 = .ok (.iaload, 1) := by decide +kernel
theorem dX10_cost_110 : decode cX10_cost 110 = .ok (.invokevirtual 150, 3) := by decide +kernel
theorem dX10_cost_113 : decode cX10_cost 113 = .ok (.aload_n 0, 1) := by decide +kernel
theorem dX10_cost_114 : decode cX10_cost 114 = .ok (.aload_n 0, 1) := by decide +kernel
theorem dX10_cost_115 : decode cX10_cost 115 = .ok (.getfield 39, 3) := by decide +kernel
theorem dX10_cost_118 : decode cX10_cost 118 = .ok (.iload_n 1, 1) := by decide +kernel
theorem dX10_cost_119 : decode cX10_cost 119 = .ok (.iaload, 1) := by decide +kernel
theorem dX10_cost_120 : decode cX10_cost 120 = .ok (.invokevirtual 150, 3) := by decide +kernel
theorem dX10_cost_123 : decode cX10_cost 123 = .ok (.iadd, 1) := by decide +kernel
theorem dX10_cost_124 : decode cX10_cost 124 = .ok (.aload_n 0, 1) := by decide +kernel
theorem dX10_cost_125 : decode cX10_cost 125 = .ok (.aload_n 0, 1) := by decide +kernel
theorem dX10_cost_126 : decode cX10_cost 126 = .ok (.getfield 36, 3) := by decide +kernel
theorem dX10_cost_129 : decode cX10_cost 129 = .ok (.iload_n 1, 1) := by decide +kernel
theorem dX10_cost_130 : decode cX10_cost 130 = .ok (.iaload, 1) := by decide +kernel
theorem dX10_cost_131 : decode cX10_cost 131 = .ok (.invokevirtual 153, 3) := by decide +kernel
theorem dX10_cost_134 : decode cX10_cost 134 = .ok (.iadd, 1) := by decide +kernel
theorem dX10_cost_135 : decode cX10_cost 135 = .ok (.aload_n 0, 1) := by decide +kernel
theorem dX10_cost_136 : decode cX10_cost 136 = .ok (.aload_n 0, 1) := by decide +kernel
theorem dX10_cost_137 : decode cX10_cost 137 = .ok (.getfield 39, 3) := by decide +kernel
theorem dX10_cost_140 : decode cX10_cost 140 = .ok (.iload_n 1, 1) := by decide +kernel
theorem dX10_cost_141 : decode cX10_cost 141 = .ok (.iaload, 1) := by decide +kernel
theorem dX10_cost_142 : decode cX10_cost 142 = .ok (.invokevirtual 153, 3) := by decide +kernel
theorem dX10_cost_145 : decode cX10_cost 145 = .ok (.iadd, 1) := by decide +kernel
theorem dX10_cost_146 : decode cX10_cost 146 = .ok (.ireturn, 1) := by decide +kernel
theorem dX10_sortsIn_0 : decode cX10_sortsIn 0 = .ok (.aload_n 0, 1) := by decide +kernel
theorem dX10_sortsIn_1 : decode cX10_sortsIn 1 = .ok (.getfield 24, 3) := by decide +kernel
theorem dX10_sortsIn_4 : decode cX10_sortsIn 4 = .ok (.iload_n 1, 1) := by decide +kernel
theorem dX10_sortsIn_5 : decode cX10_sortsIn 5 = .ok (.iaload, 1) := by decide +kernel
theorem dX10_sortsIn_6 : decode cX10_sortsIn 6 = .ok (.istore_n 3, 1) := by decide +kernel
theorem dX10_sortsIn_7 : decode cX10_sortsIn 7 = .ok (.iload_n 3, 1) := by decide +kernel
theorem dX10_sortsIn_8 : decode cX10_sortsIn 8 = .ok (.iconst 3, 1) := by decide +kernel
theorem dX10_sortsIn_9 : decode cX10_sortsIn 9 = .ok (.if_icmp .gt 13, 3) := by decide +kernel
theorem dX10_sortsIn_12 : decode cX10_sortsIn 12 = .ok (.iload_n 2, 1) := by decide +kernel
theorem dX10_sortsIn_13 : decode cX10_sortsIn 13 = .ok (.ifCond .eq 7, 3) := by decide +kernel
theorem dX10_sortsIn_16 : decode cX10_sortsIn 16 = .ok (.iconst 0, 1) := by decide +kernel
theorem dX10_sortsIn_17 : decode cX10_sortsIn 17 = .ok (.goto 4, 3) := by decide +kernel
theorem dX10_sortsIn_20 : decode cX10_sortsIn 20 = .ok (.iconst 1, 1) := by decide +kernel
theorem dX10_sortsIn_21 : decode cX10_sortsIn 21 = .ok (.ireturn, 1) := by decide +kernel
theorem dX10_sortsIn_22 : decode cX10_sortsIn 22 = .ok (.iload_n 3, 1) := by decide +kernel
theorem dX10_sortsIn_23 : decode cX10_sortsIn 23 = .ok (.iconst 4, 1) := by decide +kernel
theorem dX10_sortsIn_24 : decode cX10_sortsIn 24 = .ok (.if_icmp .ne 11, 3) := by decide +kernel
theorem dX10_sortsIn_27 : decode cX10_sortsIn 27 = .ok (.iload_n 2, 1) := by decide +kernel
theorem dX10_sortsIn_28 : decode cX10_sortsIn 28 = .ok (.ifCond .eq 7, 3) := by decide +kernel
theorem dX10_sortsIn_31 : decode cX10_sortsIn 31 = .ok (.iconst 1, 1) := by decide +kernel
theorem dX10_sortsIn_32 : decode cX10_sortsIn 32 = .ok (.goto 4, 3) := by decide +kernel
theorem dX10_sortsIn_35 : decode cX10_sortsIn 35 = .ok (.iconst 0, 1) := by decide +kernel
theorem dX10_sortsIn_36 : decode cX10_sortsIn 36 = .ok (.istore 4, 2) := by decide +kernel
theorem dX10_sortsIn_38 : decode cX10_sortsIn 38 = .ok (.iload 4, 2) := by decide +kernel
theorem dX10_sortsIn_40 : decode cX10_sortsIn 40 = .ok (.aload_n 0, 1) := by decide +kernel
theorem dX10_sortsIn_41 : decode cX10_sortsIn 41 = .ok (.aload_n 0, 1) := by decide +kernel
theorem dX10_sortsIn_42 : decode cX10_sortsIn 42 = .ok (.getfield 36, 3) := by decide +kernel
theorem dX10_sortsIn_45 : decode cX10_sortsIn 45 = .ok (.iload_n 1, 1) := by decide +kernel
theorem dX10_sortsIn_46 : decode cX10_sortsIn 46 = .ok (.iaload, 1) := by decide +kernel
theorem dX10_sortsIn_47 : decode cX10_sortsIn 47 = .ok (.iload_n 2, 1) := by decide +kernel
theorem dX10_sortsIn_48 : decode cX10_sortsIn 48 = .ok (.invokevirtual 156, 3) := by decide +kernel
theorem dX10_sortsIn_51 : decode cX10_sortsIn 51 = .ok (.iadd, 1) := by decide +kernel
theorem dX10_sortsIn_52 : decode cX10_sortsIn 52 = .ok (.iload_n 3, 1) := by decide +kernel
theorem dX10_sortsIn_53 : decode cX10_sortsIn 53 = .ok (.iconst 4, 1) := by decide +kernel
theorem dX10_sortsIn_54 : decode cX10_sortsIn 54 = .ok (.if_icmp .ne 7, 3) := by decide +kernel
theorem dX10_sortsIn_57 : decode cX10_sortsIn 57 = .ok (.iconst 0, 1) := by decide +kernel
theorem dX10_sortsIn_58 : decode cX10_sortsIn 58 = .ok (.goto 14, 3) := by decide +kernel
theorem dX10_sortsIn_61 : decode cX10_sortsIn 61 = .ok (.aload_n 0, 1) := by decide +kernel
theorem dX10_sortsIn_62 : decode cX10_sortsIn 62 = .ok (.aload_n 0, 1) := by decide +kernel
theorem dX10_sortsIn_63 : decode cX10_sortsIn 63 = .ok (.getfield 39, 3) := by decide +kernel
theorem dX10_sortsIn_66 : decode cX10_sortsIn 66 = .ok (.iload_n 1, 1) := by decide +kernel
theorem dX10_sortsIn_67 : decode cX10_sortsIn 67 = .ok (.iaload, 1) := by decide +kernel
theorem dX10_sortsIn_68 : decode cX10_sortsIn 68 = .ok (.iload_n 2, 1) := by decide +kernel
theorem dX10_sortsIn_69 : decode cX10_sortsIn 69 = .ok (.invokevirtual 156, 3) := by decide +kernel
theorem dX10_sortsIn_72 : decode cX10_sortsIn 72 = .ok (.iadd, 1) := by decide +kernel
theorem dX10_sortsIn_73 : decode cX10_sortsIn 73 = .ok (.ireturn, 1) := by decide +kernel
theorem dX10_deepOf_0 : decode cX10_deepOf 0 = .ok (.aload_n 0, 1) := by decide +kernel
theorem dX10_deepOf_1 : decode cX10_deepOf 1 = .ok (.getfield 24, 3) := by decide +kernel
theorem dX10_deepOf_4 : decode cX10_deepOf 4 = .ok (.iload_n 1, 1) := by decide +kernel
theorem dX10_deepOf_5 : decode cX10_deepOf 5 = .ok (.iaload, 1) := by decide +kernel
theorem dX10_deepOf_6 : decode cX10_deepOf 6 = .ok (.iconst 3, 1) := by decide +kernel
theorem dX10_deepOf_7 : decode cX10_deepOf 7 = .ok (.if_icmp .gt 5, 3) := by decide +kernel
theorem dX10_deepOf_10 : decode cX10_deepOf 10 = .ok (.iconst 1, 1) := by decide +kernel
theorem dX10_deepOf_11 : decode cX10_deepOf 11 = .ok (.ireturn, 1) := by decide +kernel
theorem dX10_deepOf_12 : decode cX10_deepOf 12 = .ok (.aload_n 0, 1) := by decide +kernel
theorem dX10_deepOf_13 : decode cX10_deepOf 13 = .ok (.aload_n 0, 1) := by decide +kernel
theorem dX10_deepOf_14 : decode cX10_deepOf 14 = .ok (.getfield 36, 3) := by decide +kernel
theorem dX10_deepOf_17 : decode cX10_deepOf 17 = .ok (.iload_n 1, 1) := by decide +kernel
theorem dX10_deepOf_18 : decode cX10_deepOf 18 = .ok (.iaload, 1) := by decide +kernel
theorem dX10_deepOf_19 : decode cX10_deepOf 19 = .ok (.invokevirtual 160, 3) := by decide +kernel
theorem dX10_deepOf_22 : decode cX10_deepOf 22 = .ok (.istore_n 2, 1) := by decide +kernel
theorem dX10_deepOf_23 : decode cX10_deepOf 23 = .ok (.aload_n 0, 1) := by decide +kernel
theorem dX10_deepOf_24 : decode cX10_deepOf 24 = .ok (.getfield 24, 3) := by decide +kernel
theorem dX10_deepOf_27 : decode cX10_deepOf 27 = .ok (.iload_n 1, 1) := by decide +kernel
theorem dX10_deepOf_28 : decode cX10_deepOf 28 = .ok (.iaload, 1) := by decide +kernel
theorem dX10_deepOf_29 : decode cX10_deepOf 29 = .ok (.iconst 4, 1) := by decide +kernel
theorem dX10_deepOf_30 : decode cX10_deepOf 30 = .ok (.if_icmp .ne 7, 3) := by decide +kernel
theorem dX10_deepOf_33 : decode cX10_deepOf 33 = .ok (.iconst 0, 1) := by decide +kernel
theorem dX10_deepOf_34 : decode cX10_deepOf 34 = .ok (.goto 13, 3) := by decide +kernel
theorem dX10_deepOf_37 : decode cX10_deepOf 37 = .ok (.aload_n 0, 1) := by decide +kernel
theorem dX10_deepOf_38 : decode cX10_deepOf 38 = .ok (.aload_n 0, 1) := by decide +kernel
theorem dX10_deepOf_39 : decode cX10_deepOf 39 = .ok (.getfield 39, 3) := by decide +kernel
theorem dX10_deepOf_42 : decode cX10_deepOf 42 = .ok (.iload_n 1, 1) := by decide +kernel
theorem dX10_deepOf_43 : decode cX10_deepOf 43 = .ok (.iaload, 1) := by decide +kernel
theorem dX10_deepOf_44 : decode cX10_deepOf 44 = .ok (.invokevirtual 160, 3) := by decide +kernel
theorem dX10_deepOf_47 : decode cX10_deepOf 47 = .ok (.istore_n 3, 1) := by decide +kernel
theorem dX10_deepOf_48 : decode cX10_deepOf 48 = .ok (.iconst 1, 1) := by decide +kernel
theorem dX10_deepOf_49 : decode cX10_deepOf 49 = .ok (.iload_n 2, 1) := by decide +kernel
theorem dX10_deepOf_50 : decode cX10_deepOf 50 = .ok (.iload_n 3, 1) := by decide +kernel
theorem dX10_deepOf_51 : decode cX10_deepOf 51 = .ok (.if_icmp .le 7, 3) := by decide +kernel
theorem dX10_deepOf_54 : decode cX10_deepOf 54 = .ok (.iload_n 2, 1) := by decide +kernel
theorem dX10_deepOf_55 : decode cX10_deepOf 55 = .ok (.goto 4, 3) := by decide +kernel
theorem dX10_deepOf_58 : decode cX10_deepOf 58 = .ok (.iload_n 3, 1) := by decide +kernel
theorem dX10_deepOf_59 : decode cX10_deepOf 59 = .ok (.iadd, 1) := by decide +kernel
theorem dX10_deepOf_60 : decode cX10_deepOf 60 = .ok (.ireturn, 1) := by decide +kernel
theorem dX10_rowAt_0 : decode cX10_rowAt 0 = .ok (.iload_n 2, 1) := by decide +kernel
theorem dX10_rowAt_1 : decode cX10_rowAt 1 = .ok (.istore_n 3, 1) := by decide +kernel
theorem dX10_rowAt_2 : decode cX10_rowAt 2 = .ok (.iconst 0, 1) := by decide +kernel
theorem dX10_rowAt_3 : decode cX10_rowAt 3 = .ok (.istore 4, 2) := by decide +kernel
theorem dX10_rowAt_5 : decode cX10_rowAt 5 = .ok (.iload 4, 2) := by decide +kernel
theorem dX10_rowAt_7 : decode cX10_rowAt 7 = .ok (.aload_n 0, 1) := by decide +kernel
theorem dX10_rowAt_8 : decode cX10_rowAt 8 = .ok (.getfield 11, 3) := by decide +kernel
theorem dX10_rowAt_11 : decode cX10_rowAt 11 = .ok (.sipush 480, 3) := by decide +kernel
theorem dX10_rowAt_14 : decode cX10_rowAt 14 = .ok (.iaload, 1) := by decide +kernel
theorem dX10_rowAt_15 : decode cX10_rowAt 15 = .ok (.if_icmp .ge 29, 3) := by decide +kernel
theorem dX10_rowAt_18 : decode cX10_rowAt 18 = .ok (.aload_n 0, 1) := by decide +kernel
theorem dX10_rowAt_19 : decode cX10_rowAt 19 = .ok (.iload_n 1, 1) := by decide +kernel
theorem dX10_rowAt_20 : decode cX10_rowAt 20 = .ok (.iload 4, 2) := by decide +kernel
theorem dX10_rowAt_22 : decode cX10_rowAt 22 = .ok (.invokevirtual 146, 3) := by decide +kernel
theorem dX10_rowAt_25 : decode cX10_rowAt 25 = .ok (.ifCond .eq 13, 3) := by decide +kernel
theorem dX10_rowAt_28 : decode cX10_rowAt 28 = .ok (.iload_n 3, 1) := by decide +kernel
theorem dX10_rowAt_29 : decode cX10_rowAt 29 = .ok (.ifCond .ne 6, 3) := by decide +kernel
theorem dX10_rowAt_32 : decode cX10_rowAt 32 = .ok (.iload 4, 2) := by decide +kernel
theorem dX10_rowAt_34 : decode cX10_rowAt 34 = .ok (.ireturn, 1) := by decide +kernel
theorem dX10_rowAt_35 : decode cX10_rowAt 35 = .ok (.iinc 3 (-1), 3) := by decide +kernel
theorem dX10_rowAt_38 : decode cX10_rowAt 38 = .ok (.iinc 4 1, 3) := by decide +kernel
theorem dX10_rowAt_41 : decode cX10_rowAt 41 = .ok (.goto (-36), 3) := by decide +kernel
theorem dX10_rowAt_44 : decode cX10_rowAt 44 = .ok (.bipush (-5), 2) := by decide +kernel
theorem dX10_rowAt_46 : decode cX10_rowAt 46 = .ok (.ireturn, 1) := by decide +kernel
theorem dX10_of_0 : decode cX10_of 0 = .ok (.aload_n 0, 1) := by decide +kernel
theorem dX10_of_1 : decode cX10_of 1 = .ok (.iload_n 1, 1) := by decide +kernel
theorem dX10_of_2 : decode cX10_of 2 = .ok (.invokevirtual 163, 3) := by decide +kernel
theorem dX10_of_5 : decode cX10_of 5 = .ok (.ifCond .eq 13, 3) := by decide +kernel
theorem dX10_of_8 : decode cX10_of 8 = .ok (.iload_n 2, 1) := by decide +kernel
theorem dX10_of_9 : decode cX10_of 9 = .ok (.iconst 0, 1) := by decide +kernel
theorem dX10_of_10 : decode cX10_of 10 = .ok (.bipush 7, 2) := by decide +kernel
theorem dX10_of_12 : decode cX10_of 12 = .ok (.invokestatic 63, 3) := by decide +kernel
theorem dX10_of_15 : decode cX10_of 15 = .ok (.ifCond .ne 5, 3) := by decide +kernel
theorem dX10_of_18 : decode cX10_of 18 = .ok (.iconst (-1), 1) := by decide +kernel
theorem dX10_of_19 : decode cX10_of 19 = .ok (.ireturn, 1) := by decide +kernel
theorem dX10_of_20 : decode cX10_of 20 = .ok (.aload_n 0, 1) := by decide +kernel
theorem dX10_of_21 : decode cX10_of 21 = .ok (.getfield 21, 3) := by decide +kernel
theorem dX10_of_24 : decode cX10_of 24 = .ok (.iload_n 1, 1) := by decide +kernel
theorem dX10_of_25 : decode cX10_of 25 = .ok (.iaload, 1) := by decide +kernel
theorem dX10_of_26 : decode cX10_of 26 = .ok (.istore_n 3, 1) := by decide +kernel
theorem dX10_of_27 : decode cX10_of 27 = .ok (.iload_n 2, 1) := by decide +kernel
theorem dX10_of_28 : decode cX10_of 28 = .ok (.tableswitch 96 0 6 #[44, 50, 56, 62, 69, 82, 89], 44) := by decide +kernel
theorem dX10_of_72 : decode cX10_of 72 = .ok (.aload_n 0, 1) := by decide +kernel
theorem dX10_of_73 : decode cX10_of 73 = .ok (.iload_n 3, 1) := by decide +kernel
theorem dX10_of_74 : decode cX10_of 74 = .ok (.invokevirtual 166, 3) := by decide +kernel
theorem dX10_of_77 : decode cX10_of 77 = .ok (.ireturn, 1) := by decide +kernel
theorem dX10_of_78 : decode cX10_of 78 = .ok (.aload_n 0, 1) := by decide +kernel
theorem dX10_of_79 : decode cX10_of 79 = .ok (.iload_n 3, 1) := by decide +kernel
theorem dX10_of_80 : decode cX10_of 80 = .ok (.invokevirtual 153, 3) := by decide +kernel
theorem dX10_of_83 : decode cX10_of 83 = .ok (.ireturn, 1) := by decide +kernel
theorem dX10_of_84 : decode cX10_of 84 = .ok (.aload_n 0, 1) := by decide +kernel
theorem dX10_of_85 : decode cX10_of 85 = .ok (.iload_n 3, 1) := by decide +kernel
theorem dX10_of_86 : decode cX10_of 86 = .ok (.invokevirtual 150, 3) := by decide +kernel
theorem dX10_of_89 : decode cX10_of 89 = .ok (.ireturn, 1) := by decide +kernel
theorem dX10_of_90 : decode cX10_of 90 = .ok (.aload_n 0, 1) := by decide +kernel
theorem dX10_of_91 : decode cX10_of 91 = .ok (.iload_n 3, 1) := by decide +kernel
theorem dX10_of_92 : decode cX10_of 92 = .ok (.iconst 0, 1) := by decide +kernel
theorem dX10_of_93 : decode cX10_of 93 = .ok (.invokevirtual 169, 3) := by decide +kernel
theorem dX10_of_96 : decode cX10_of 96 = .ok (.ireturn, 1) := by decide +kernel
theorem dX10_of_97 : decode cX10_of 97 = .ok (.aload_n 0, 1) := by decide +kernel
theorem dX10_of_98 : decode cX10_of 98 = .ok (.iload_n 3, 1) := by decide +kernel
theorem dX10_of_99 : decode cX10_of 99 = .ok (.aload_n 0, 1) := by decide +kernel
theorem dX10_of_100 : decode cX10_of 100 = .ok (.iload_n 3, 1) := by decide +kernel
theorem dX10_of_101 : decode cX10_of 101 = .ok (.invokevirtual 166, 3) := by decide +kernel
theorem dX10_of_104 : decode cX10_of 104 = .ok (.iconst 1, 1) := by decide +kernel
theorem dX10_of_105 : decode cX10_of 105 = .ok (.isub, 1) := by decide +kernel
theorem dX10_of_106 : decode cX10_of 106 = .ok (.invokevirtual 169, 3) := by decide +kernel
theorem dX10_of_109 : decode cX10_of 109 = .ok (.ireturn, 1) := by decide +kernel
theorem dX10_of_110 : decode cX10_of 110 = .ok (.aload_n 0, 1) := by decide +kernel
theorem dX10_of_111 : decode cX10_of 111 = .ok (.iload_n 3, 1) := by decide +kernel
theorem dX10_of_112 : decode cX10_of 112 = .ok (.iconst 0, 1) := by decide +kernel
theorem dX10_of_113 : decode cX10_of 113 = .ok (.invokevirtual 156, 3) := by decide +kernel
theorem dX10_of_116 : decode cX10_of 116 = .ok (.ireturn, 1) := by decide +kernel
theorem dX10_of_117 : decode cX10_of 117 = .ok (.aload_n 0, 1) := by decide +kernel
theorem dX10_of_118 : decode cX10_of 118 = .ok (.iload_n 3, 1) := by decide +kernel
theorem dX10_of_119 : decode cX10_of 119 = .ok (.iconst 1, 1) := by decide +kernel
theorem dX10_of_120 : decode cX10_of 120 = .ok (.invokevirtual 156, 3) := by decide +kernel
theorem dX10_of_123 : decode cX10_of 123 = .ok (.ireturn, 1) := by decide +kernel
theorem dX10_of_124 : decode cX10_of 124 = .ok (.aload_n 0, 1) := by decide +kernel
theorem dX10_of_125 : decode cX10_of 125 = .ok (.iload_n 3, 1) := by decide +kernel
theorem dX10_of_126 : decode cX10_of 126 = .ok (.invokevirtual 160, 3) := by decide +kernel
theorem dX10_of_129 : decode cX10_of 129 = .ok (.ireturn, 1) := by decide +kernel
theorem dX10_row_0 : decode cX10_row 0 = .ok (.aload_n 0, 1) := by decide +kernel
theorem dX10_row_1 : decode cX10_row 1 = .ok (.iload_n 1, 1) := by decide +kernel
theorem dX10_row_2 : decode cX10_row 2 = .ok (.invokevirtual 163, 3) := by decide +kernel
theorem dX10_row_5 : decode cX10_row 5 = .ok (.ifCond .eq 21, 3) := by decide +kernel
theorem dX10_row_8 : decode cX10_row 8 = .ok (.iload_n 2, 1) := by decide +kernel
theorem dX10_row_9 : decode cX10_row 9 = .ok (.ifCond .lt 17, 3) := by decide +kernel
theorem dX10_row_12 : decode cX10_row 12 = .ok (.aload_n 0, 1) := by decide +kernel
theorem dX10_row_13 : decode cX10_row 13 = .ok (.aload_n 0, 1) := by decide +kernel
theorem dX10_row_14 : decode cX10_row 14 = .ok (.getfield 21, 3) := by decide +kernel
theorem dX10_row_17 : decode cX10_row 17 = .ok (.iload_n 1, 1) := by decide +kernel
theorem dX10_row_18 : decode cX10_row 18 = .ok (.iaload, 1) := by decide +kernel
theorem dX10_row_19 : decode cX10_row 19 = .ok (.iload_n 2, 1) := by decide +kernel
theorem dX10_row_20 : decode cX10_row 20 = .ok (.invokevirtual 169, 3) := by decide +kernel
theorem dX10_row_23 : decode cX10_row 23 = .ok (.goto 4, 3) := by decide +kernel
theorem dX10_row_26 : decode cX10_row 26 = .ok (.iconst (-1), 1) := by decide +kernel
theorem dX10_row_27 : decode cX10_row 27 = .ok (.ireturn, 1) := by decide +kernel
theorem dX10_grouped_0 : decode cX10_grouped 0 = .ok (.iconst 0, 1) := by decide +kernel
theorem dX10_grouped_1 : decode cX10_grouped 1 = .ok (.istore_n 3, 1) := by decide +kernel
theorem dX10_grouped_2 : decode cX10_grouped 2 = .ok (.iload_n 3, 1) := by decide +kernel
theorem dX10_grouped_3 : decode cX10_grouped 3 = .ok (.bipush 16, 2) := by decide +kernel
theorem dX10_grouped_5 : decode cX10_grouped 5 = .ok (.if_icmp .ge 16, 3) := by decide +kernel
theorem dX10_grouped_8 : decode cX10_grouped 8 = .ok (.aload_n 0, 1) := by decide +kernel
theorem dX10_grouped_9 : decode cX10_grouped 9 = .ok (.getfield 45, 3) := by decide +kernel
theorem dX10_grouped_12 : decode cX10_grouped 12 = .ok (.iload_n 3, 1) := by decide +kernel
theorem dX10_grouped_13 : decode cX10_grouped 13 = .ok (.iconst 0, 1) := by decide +kernel
theorem dX10_grouped_14 : decode cX10_grouped 14 = .ok (.iastore, 1) := by decide +kernel
theorem dX10_grouped_15 : decode cX10_grouped 15 = .ok (.iinc 3 1, 3) := by decide +kernel
theorem dX10_grouped_18 : decode cX10_grouped 18 = .ok (.goto (-16), 3) := by decide +kernel
theorem dX10_grouped_21 : decode cX10_grouped 21 = .ok (.iconst 0, 1) := by decide +kernel
theorem dX10_grouped_22 : decode cX10_grouped 22 = .ok (.istore_n 3, 1) := by decide +kernel
theorem dX10_grouped_23 : decode cX10_grouped 23 = .ok (.iload_n 3, 1) := by decide +kernel
theorem dX10_grouped_24 : decode cX10_grouped 24 = .ok (.aload_n 0, 1) := by decide +kernel
theorem dX10_grouped_25 : decode cX10_grouped 25 = .ok (.getfield 11, 3) := by decide +kernel
theorem dX10_grouped_28 : decode cX10_grouped 28 = .ok (.sipush 480, 3) := by decide +kernel
theorem dX10_grouped_31 : decode cX10_grouped 31 = .ok (.iaload, 1) := by decide +kernel
theorem dX10_grouped_32 : decode cX10_grouped 32 = .ok (.if_icmp .ge 41, 3) := by decide +kernel
theorem dX10_grouped_35 : decode cX10_grouped 35 = .ok (.aload_n 0, 1) := by decide +kernel
theorem dX10_grouped_36 : decode cX10_grouped 36 = .ok (.getfield 45, 3) := by decide +kernel
theorem dX10_grouped_39 : decode cX10_grouped 39 = .ok (.aload_n 0, 1) := by decide +kernel
theorem dX10_grouped_40 : decode cX10_grouped 40 = .ok (.getfield 11, 3) := by decide +kernel
theorem dX10_grouped_43 : decode cX10_grouped 43 = .ok (.iconst 4, 1) := by decide +kernel
theorem dX10_grouped_44 : decode cX10_grouped 44 = .ok (.iload_n 3, 1) := by decide +kernel
theorem dX10_grouped_45 : decode cX10_grouped 45 = .ok (.imul, 1) := by decide +kernel
theorem dX10_grouped_46 : decode cX10_grouped 46 = .ok (.iload_n 2, 1) := by decide +kernel
theorem dX10_grouped_47 : decode cX10_grouped 47 = .ok (.iadd, 1) := by decide +kernel
theorem dX10_grouped_48 : decode cX10_grouped 48 = .ok (.iaload, 1) := by decide +kernel
theorem dX10_grouped_49 : decode cX10_grouped 49 = .ok (.dup2, 1) := by decide +kernel
theorem dX10_grouped_50 : decode cX10_grouped 50 = .ok (.iaload, 1) := by decide +kernel
theorem dX10_grouped_51 : decode cX10_grouped 51 = .ok (.aload_n 0, 1) := by decide +kernel
theorem dX10_grouped_52 : decode cX10_grouped 52 = .ok (.iload_n 1, 1) := by decide +kernel
theorem dX10_grouped_53 : decode cX10_grouped 53 = .ok (.iload_n 3, 1) := by decide +kernel
theorem dX10_grouped_54 : decode cX10_grouped 54 = .ok (.invokevirtual 146, 3) := by decide +kernel
theorem dX10_grouped_57 : decode cX10_grouped 57 = .ok (.ifCond .eq 7, 3) := by decide +kernel
theorem dX10_grouped_60 : decode cX10_grouped 60 = .ok (.iconst 1, 1) := by decide +kernel
theorem dX10_grouped_61 : decode cX10_grouped 61 = .ok (.goto 4, 3) := by decide +kernel
theorem dX10_grouped_64 : decode cX10_grouped 64 = .ok (.iconst 0, 1) := by decide +kernel
theorem dX10_grouped_65 : decode cX10_grouped 65 = .ok (.iadd, 1) := by decide +kernel
theorem dX10_grouped_66 : decode cX10_grouped 66 = .ok (.iastore, 1) := by decide +kernel
theorem dX10_grouped_67 : decode cX10_grouped 67 = .ok (.iinc 3 1, 3) := by decide +kernel
theorem dX10_grouped_70 : decode cX10_grouped 70 = .ok (.goto (-47), 3) := by decide +kernel
theorem dX10_grouped_73 : decode cX10_grouped 73 = .ok (.return_, 1) := by decide +kernel
theorem dX10_group_0 : decode cX10_group 0 = .ok (.aload_n 0, 1) := by decide +kernel
theorem dX10_group_1 : decode cX10_group 1 = .ok (.iload_n 1, 1) := by decide +kernel
theorem dX10_group_2 : decode cX10_group 2 = .ok (.invokevirtual 163, 3) := by decide +kernel
theorem dX10_group_5 : decode cX10_group 5 = .ok (.ifCond .eq 22, 3) := by decide +kernel
theorem dX10_group_8 : decode cX10_group 8 = .ok (.iload_n 2, 1) := by decide +kernel
theorem dX10_group_9 : decode cX10_group 9 = .ok (.iconst 0, 1) := by decide +kernel
theorem dX10_group_10 : decode cX10_group 10 = .ok (.iconst 3, 1) := by decide +kernel
theorem dX10_group_11 : decode cX10_group 11 = .ok (.invokestatic 63, 3) := by decide +kernel
theorem dX10_group_14 : decode cX10_group 14 = .ok (.ifCond .eq 13, 3) := by decide +kernel
theorem dX10_group_17 : decode cX10_group 17 = .ok (.iload_n 3, 1) := by decide +kernel
theorem dX10_group_18 : decode cX10_group 18 = .ok (.iconst 0, 1) := by decide +kernel
theorem dX10_group_19 : decode cX10_group 19 = .ok (.bipush 15, 2) := by decide +kernel
theorem dX10_group_21 : decode cX10_group 21 = .ok (.invokestatic 63, 3) := by decide +kernel
theorem dX10_group_24 : decode cX10_group 24 = .ok (.ifCond .ne 5, 3) := by decide +kernel
theorem dX10_group_27 : decode cX10_group 27 = .ok (.iconst (-1), 1) := by decide +kernel
theorem dX10_group_28 : decode cX10_group 28 = .ok (.ireturn, 1) := by decide +kernel
theorem dX10_group_29 : decode cX10_group 29 = .ok (.aload_n 0, 1) := by decide +kernel
theorem dX10_group_30 : decode cX10_group 30 = .ok (.aload_n 0, 1) := by decide +kernel
theorem dX10_group_31 : decode cX10_group 31 = .ok (.getfield 21, 3) := by decide +kernel
theorem dX10_group_34 : decode cX10_group 34 = .ok (.iload_n 1, 1) := by decide +kernel
theorem dX10_group_35 : decode cX10_group 35 = .ok (.iaload, 1) := by decide +kernel
theorem dX10_group_36 : decode cX10_group 36 = .ok (.iload_n 2, 1) := by decide +kernel
theorem dX10_group_37 : decode cX10_group 37 = .ok (.invokevirtual 172, 3) := by decide +kernel
theorem dX10_group_40 : decode cX10_group 40 = .ok (.aload_n 0, 1) := by decide +kernel
theorem dX10_group_41 : decode cX10_group 41 = .ok (.getfield 45, 3) := by decide +kernel
theorem dX10_group_44 : decode cX10_group 44 = .ok (.iload_n 3, 1) := by decide +kernel
theorem dX10_group_45 : decode cX10_group 45 = .ok (.iaload, 1) := by decide +kernel
theorem dX10_group_46 : decode cX10_group 46 = .ok (.ireturn, 1) := by decide +kernel
theorem dX10_edge_0 : decode cX10_edge 0 = .ok (.aload_n 0, 1) := by decide +kernel
theorem dX10_edge_1 : decode cX10_edge 1 = .ok (.iload_n 1, 1) := by decide +kernel
theorem dX10_edge_2 : decode cX10_edge 2 = .ok (.invokevirtual 163, 3) := by decide +kernel
theorem dX10_edge_5 : decode cX10_edge 5 = .ok (.ifCond .eq 21, 3) := by decide +kernel
theorem dX10_edge_8 : decode cX10_edge 8 = .ok (.iload_n 2, 1) := by decide +kernel
theorem dX10_edge_9 : decode cX10_edge 9 = .ok (.iconst 0, 1) := by decide +kernel
theorem dX10_edge_10 : decode cX10_edge 10 = .ok (.iconst 3, 1) := by decide +kernel
theorem dX10_edge_11 : decode cX10_edge 11 = .ok (.invokestatic 63, 3) := by decide +kernel
theorem dX10_edge_14 : decode cX10_edge 14 = .ok (.ifCond .eq 12, 3) := by decide +kernel
theorem dX10_edge_17 : decode cX10_edge 17 = .ok (.iload_n 3, 1) := by decide +kernel
theorem dX10_edge_18 : decode cX10_edge 18 = .ok (.iconst 0, 1) := by decide +kernel
theorem dX10_edge_19 : decode cX10_edge 19 = .ok (.iconst 4, 1) := by decide +kernel
theorem dX10_edge_20 : decode cX10_edge 20 = .ok (.invokestatic 63, 3) := by decide +kernel
theorem dX10_edge_23 : decode cX10_edge 23 = .ok (.ifCond .ne 5, 3) := by decide +kernel
theorem dX10_edge_26 : decode cX10_edge 26 = .ok (.iconst (-1), 1) := by decide +kernel
theorem dX10_edge_27 : decode cX10_edge 27 = .ok (.ireturn, 1) := by decide +kernel
theorem dX10_edge_28 : decode cX10_edge 28 = .ok (.aload_n 0, 1) := by decide +kernel
theorem dX10_edge_29 : decode cX10_edge 29 = .ok (.aload_n 0, 1) := by decide +kernel
theorem dX10_edge_30 : decode cX10_edge 30 = .ok (.getfield 21, 3) := by decide +kernel
theorem dX10_edge_33 : decode cX10_edge 33 = .ok (.iload_n 1, 1) := by decide +kernel
theorem dX10_edge_34 : decode cX10_edge 34 = .ok (.iaload, 1) := by decide +kernel
theorem dX10_edge_35 : decode cX10_edge 35 = .ok (.iload_n 2, 1) := by decide +kernel
theorem dX10_edge_36 : decode cX10_edge 36 = .ok (.invokevirtual 172, 3) := by decide +kernel
theorem dX10_edge_39 : decode cX10_edge 39 = .ok (.aload_n 0, 1) := by decide +kernel
theorem dX10_edge_40 : decode cX10_edge 40 = .ok (.aload_n 0, 1) := by decide +kernel
theorem dX10_edge_41 : decode cX10_edge 41 = .ok (.getfield 21, 3) := by decide +kernel
theorem dX10_edge_44 : decode cX10_edge 44 = .ok (.iload_n 1, 1) := by decide +kernel
theorem dX10_edge_45 : decode cX10_edge 45 = .ok (.iaload, 1) := by decide +kernel
theorem dX10_edge_46 : decode cX10_edge 46 = .ok (.invokevirtual 166, 3) := by decide +kernel
theorem dX10_edge_49 : decode cX10_edge 49 = .ok (.istore 4, 2) := by decide +kernel
theorem dX10_edge_51 : decode cX10_edge 51 = .ok (.bipush (-5), 2) := by decide +kernel
theorem dX10_edge_53 : decode cX10_edge 53 = .ok (.istore 5, 2) := by decide +kernel
theorem dX10_edge_55 : decode cX10_edge 55 = .ok (.bipush (-5), 2) := by decide +kernel
theorem dX10_edge_57 : decode cX10_edge 57 = .ok (.istore 6, 2) := by decide +kernel
theorem dX10_edge_59 : decode cX10_edge 59 = .ok (.bipush (-5), 2) := by decide +kernel
theorem dX10_edge_61 : decode cX10_edge 61 = .ok (.istore 7, 2) := by decide +kernel
theorem dX10_edge_63 : decode cX10_edge 63 = .ok (.iconst 0, 1) := by decide +kernel
theorem dX10_edge_64 : decode cX10_edge 64 = .ok (.istore 8, 2) := by decide +kernel
theorem dX10_edge_66 : decode cX10_edge 66 = .ok (.bipush (-5), 2) := by decide +kernel
theorem dX10_edge_68 : decode cX10_edge 68 = .ok (.istore 9, 2) := by decide +kernel
theorem dX10_edge_70 : decode cX10_edge 70 = .ok (.iconst 0, 1) := by decide +kernel
theorem dX10_edge_71 : decode cX10_edge 71 = .ok (.istore 10, 2) := by decide +kernel
theorem dX10_edge_73 : decode cX10_edge 73 = .ok (.iconst 0, 1) := by decide +kernel
theorem dX10_edge_74 : decode cX10_edge 74 = .ok (.istore 11, 2) := by decide +kernel
theorem dX10_edge_76 : decode cX10_edge 76 = .ok (.iload 11, 2) := by decide +kernel
theorem dX10_edge_78 : decode cX10_edge 78 = .ok (.bipush 16, 2) := by decide +kernel
theorem dX10_edge_80 : decode cX10_edge 80 = .ok (.if_icmp .ge 106, 3) := by decide +kernel
theorem dX10_edge_83 : decode cX10_edge 83 = .ok (.aload_n 0, 1) := by decide +kernel
theorem dX10_edge_84 : decode cX10_edge 84 = .ok (.getfield 45, 3) := by decide +kernel
theorem dX10_edge_87 : decode cX10_edge 87 = .ok (.iload 11, 2) := by decide +kernel
theorem dX10_edge_89 : decode cX10_edge 89 = .ok (.iaload, 1) := by decide +kernel
theorem dX10_edge_90 : decode cX10_edge 90 = .ok (.ifCond .le 90, 3) := by decide +kernel
theorem dX10_edge_93 : decode cX10_edge 93 = .ok (.iload 10, 2) := by decide +kernel
theorem dX10_edge_95 : decode cX10_edge 95 = .ok (.aload_n 0, 1) := by decide +kernel
theorem dX10_edge_96 : decode cX10_edge 96 = .ok (.getfield 45, 3) := by decide +kernel
theorem dX10_edge_99 : decode cX10_edge 99 = .ok (.iload 11, 2) := by decide +kernel
theorem dX10_edge_101 : decode cX10_edge 101 = .ok (.iaload, 1) := by decide +kernel
theorem dX10_edge_102 : decode cX10_edge 102 = .ok (.iadd, 1) := by decide +kernel
theorem dX10_edge_103 : decode cX10_edge 103 = .ok (.istore 10, 2) := by decide +kernel
theorem dX10_edge_105 : decode cX10_edge 105 = .ok (.iload 5, 2) := by decide +kernel
theorem dX10_edge_107 : decode cX10_edge 107 = .ok (.ifCond .ge 8, 3) := by decide +kernel
theorem dX10_edge_110 : decode cX10_edge 110 = .ok (.iload 11, 2) := by decide +kernel
theorem dX10_edge_112 : decode cX10_edge 112 = .ok (.goto 5, 3) := by decide +kernel
theorem dX10_edge_115 : decode cX10_edge 115 = .ok (.iload 5, 2) := by decide +kernel
theorem dX10_edge_117 : decode cX10_edge 117 = .ok (.istore 5, 2) := by decide +kernel
theorem dX10_edge_119 : decode cX10_edge 119 = .ok (.iload 11, 2) := by decide +kernel
theorem dX10_edge_121 : decode cX10_edge 121 = .ok (.istore 6, 2) := by decide +kernel
theorem dX10_edge_123 : decode cX10_edge 123 = .ok (.iload 7, 2) := by decide +kernel
theorem dX10_edge_125 : decode cX10_edge 125 = .ok (.ifCond .ge 17, 3) := by decide +kernel
theorem dX10_edge_128 : decode cX10_edge 128 = .ok (.iconst 2, 1) := by decide +kernel
theorem dX10_edge_129 : decode cX10_edge 129 = .ok (.iload 10, 2) := by decide +kernel
theorem dX10_edge_131 : decode cX10_edge 131 = .ok (.imul, 1) := by decide +kernel
theorem dX10_edge_132 : decode cX10_edge 132 = .ok (.iload 4, 2) := by decide +kernel
theorem dX10_edge_134 : decode cX10_edge 134 = .ok (.if_icmp .lt 8, 3) := by decide +kernel
theorem dX10_edge_137 : decode cX10_edge 137 = .ok (.iload 11, 2) := by decide +kernel
theorem dX10_edge_139 : decode cX10_edge 139 = .ok (.goto 5, 3) := by decide +kernel
theorem dX10_edge_142 : decode cX10_edge 142 = .ok (.iload 7, 2) := by decide +kernel
theorem dX10_edge_144 : decode cX10_edge 144 = .ok (.istore 7, 2) := by decide +kernel
theorem dX10_edge_146 : decode cX10_edge 146 = .ok (.iinc 8 1, 3) := by decide +kernel
theorem dX10_edge_149 : decode cX10_edge 149 = .ok (.iload 9, 2) := by decide +kernel
theorem dX10_edge_151 : decode cX10_edge 151 = .ok (.ifCond .lt 20, 3) := by decide +kernel
theorem dX10_edge_154 : decode cX10_edge 154 = .ok (.aload_n 0, 1) := by decide +kernel
theorem dX10_edge_155 : decode cX10_edge 155 = .ok (.getfield 45, 3) := by decide +kernel
theorem dX10_edge_158 : decode cX10_edge 158 = .ok (.iload 11, 2) := by decide +kernel
theorem dX10_edge_160 : decode cX10_edge 160 = .ok (.iaload, 1) := by decide +kernel
theorem dX10_edge_161 : decode cX10_edge 161 = .ok (.aload_n 0, 1) := by decide +kernel
theorem dX10_edge_162 : decode cX10_edge 162 = .ok (.getfield 45, 3) := by decide +kernel
theorem dX10_edge_165 : decode cX10_edge 165 = .ok (.iload 9, 2) := by decide +kernel
theorem dX10_edge_167 : decode cX10_edge 167 = .ok (.iaload, 1) := by decide +kernel
theorem dX10_edge_168 : decode cX10_edge 168 = .ok (.if_icmp .le 8, 3) := by decide +kernel
theorem dX10_edge_171 : decode cX10_edge 171 = .ok (.iload 11, 2) := by decide +kernel
theorem dX10_edge_173 : decode cX10_edge 173 = .ok (.goto 5, 3) := by decide +kernel
theorem dX10_edge_176 : decode cX10_edge 176 = .ok (.iload 9, 2) := by decide +kernel
theorem dX10_edge_178 : decode cX10_edge 178 = .ok (.istore 9, 2) := by decide +kernel
theorem dX10_edge_180 : decode cX10_edge 180 = .ok (.iinc 11 1, 3) := by decide +kernel
theorem dX10_edge_183 : decode cX10_edge 183 = .ok (.goto (-107), 3) := by decide +kernel
theorem dX10_edge_186 : decode cX10_edge 186 = .ok (.iload_n 3, 1) := by decide +kernel
theorem dX10_edge_187 : decode cX10_edge 187 = .ok (.ifCond .ne 8, 3) := by decide +kernel
theorem dX10_edge_190 : decode cX10_edge 190 = .ok (.iload 5, 2) := by decide +kernel
theorem dX10_edge_192 : decode cX10_edge 192 = .ok (.goto 35, 3) := by decide +kernel
theorem dX10_edge_195 : decode cX10_edge 195 = .ok (.iload_n 3, 1) := by decide +kernel
theorem dX10_edge_196 : decode cX10_edge 196 = .ok (.iconst 1, 1) := by decide +kernel
theorem dX10_edge_197 : decode cX10_edge 197 = .ok (.if_icmp .ne 8, 3) := by decide +kernel
theorem dX10_edge_200 : decode cX10_edge 200 = .ok (.iload 6, 2) := by decide +kernel
theorem dX10_edge_202 : decode cX10_edge 202 = .ok (.goto 25, 3) := by decide +kernel
theorem dX10_edge_205 : decode cX10_edge 205 = .ok (.iload_n 3, 1) := by decide +kernel
theorem dX10_edge_206 : decode cX10_edge 206 = .ok (.iconst 2, 1) := by decide +kernel
theorem dX10_edge_207 : decode cX10_edge 207 = .ok (.if_icmp .ne 8, 3) := by decide +kernel
theorem dX10_edge_210 : decode cX10_edge 210 = .ok (.iload 7, 2) := by decide +kernel
theorem dX10_edge_212 : decode cX10_edge 212 = .ok (.goto 15, 3) := by decide +kernel
theorem dX10_edge_215 : decode cX10_edge 215 = .ok (.iload_n 3, 1) := by decide +kernel
theorem dX10_edge_216 : decode cX10_edge 216 = .ok (.iconst 3, 1) := by decide +kernel
theorem dX10_edge_217 : decode cX10_edge 217 = .ok (.if_icmp .ne 8, 3) := by decide +kernel
theorem dX10_edge_220 : decode cX10_edge 220 = .ok (.iload 8, 2) := by decide +kernel
theorem dX10_edge_222 : decode cX10_edge 222 = .ok (.goto 5, 3) := by decide +kernel
theorem dX10_edge_225 : decode cX10_edge 225 = .ok (.iload 9, 2) := by decide +kernel
theorem dX10_edge_227 : decode cX10_edge 227 = .ok (.ireturn, 1) := by decide +kernel
theorem dX10_two_0 : decode cX10_two 0 = .ok (.aload_n 0, 1) := by decide +kernel
theorem dX10_two_1 : decode cX10_two 1 = .ok (.iload_n 1, 1) := by decide +kernel
theorem dX10_two_2 : decode cX10_two 2 = .ok (.invokevirtual 163, 3) := by decide +kernel
theorem dX10_two_5 : decode cX10_two 5 = .ok (.ifCond .eq 20, 3) := by decide +kernel
theorem dX10_two_8 : decode cX10_two 8 = .ok (.aload_n 0, 1) := by decide +kernel
theorem dX10_two_9 : decode cX10_two 9 = .ok (.iload_n 2, 1) := by decide +kernel
theorem dX10_two_10 : decode cX10_two 10 = .ok (.invokevirtual 163, 3) := by decide +kernel
theorem dX10_two_13 : decode cX10_two 13 = .ok (.ifCond .eq 12, 3) := by decide +kernel
theorem dX10_two_16 : decode cX10_two 16 = .ok (.iload_n 3, 1) := by decide +kernel
theorem dX10_two_17 : decode cX10_two 17 = .ok (.iconst 0, 1) := by decide +kernel
theorem dX10_two_18 : decode cX10_two 18 = .ok (.iconst 4, 1) := by decide +kernel
theorem dX10_two_19 : decode cX10_two 19 = .ok (.invokestatic 63, 3) := by decide +kernel
theorem dX10_two_22 : decode cX10_two 22 = .ok (.ifCond .ne 5, 3) := by decide +kernel
theorem dX10_two_25 : decode cX10_two 25 = .ok (.iconst (-1), 1) := by decide +kernel
theorem dX10_two_26 : decode cX10_two 26 = .ok (.ireturn, 1) := by decide +kernel
theorem dX10_two_27 : decode cX10_two 27 = .ok (.iconst 0, 1) := by decide +kernel
theorem dX10_two_28 : decode cX10_two 28 = .ok (.istore 4, 2) := by decide +kernel
theorem dX10_two_30 : decode cX10_two 30 = .ok (.iconst 0, 1) := by decide +kernel
theorem dX10_two_31 : decode cX10_two 31 = .ok (.istore 5, 2) := by decide +kernel
theorem dX10_two_33 : decode cX10_two 33 = .ok (.iconst 0, 1) := by decide +kernel
theorem dX10_two_34 : decode cX10_two 34 = .ok (.istore 6, 2) := by decide +kernel
theorem dX10_two_36 : decode cX10_two 36 = .ok (.iconst 0, 1) := by decide +kernel
theorem dX10_two_37 : decode cX10_two 37 = .ok (.istore 7, 2) := by decide +kernel
theorem dX10_two_39 : decode cX10_two 39 = .ok (.iload 7, 2) := by decide +kernel
theorem dX10_two_41 : decode cX10_two 41 = .ok (.aload_n 0, 1) := by decide +kernel
theorem dX10_two_42 : decode cX10_two 42 = .ok (.getfield 11, 3) := by decide +kernel
theorem dX10_two_45 : decode cX10_two 45 = .ok (.sipush 480, 3) := by decide +kernel
theorem dX10_two_48 : decode cX10_two 48 = .ok (.iaload, 1) := by decide +kernel
theorem dX10_two_49 : decode cX10_two 49 = .ok (.if_icmp .ge 97, 3) := by decide +kernel
theorem dX10_two_52 : decode cX10_two 52 = .ok (.aload_n 0, 1) := by decide +kernel
theorem dX10_two_53 : decode cX10_two 53 = .ok (.aload_n 0, 1) := by decide +kernel
theorem dX10_two_54 : decode cX10_two 54 = .ok (.getfield 21, 3) := by decide +kernel
theorem dX10_two_57 : decode cX10_two 57 = .ok (.iload_n 1, 1) := by decide +kernel
theorem dX10_two_58 : decode cX10_two 58 = .ok (.iaload, 1) := by decide +kernel
theorem dX10_two_59 : decode cX10_two 59 = .ok (.iload 7, 2) := by decide +kernel
theorem dX10_two_61 : decode cX10_two 61 = .ok (.invokevirtual 146, 3) := by decide +kernel
theorem dX10_two_64 : decode cX10_two 64 = .ok (.istore 8, 2) := by decide +kernel
theorem dX10_two_66 : decode cX10_two 66 = .ok (.aload_n 0, 1) := by decide +kernel
theorem dX10_two_67 : decode cX10_two 67 = .ok (.aload_n 0, 1) := by decide +kernel
theorem dX10_two_68 : decode cX10_two 68 = .ok (.getfield 21, 3) := by decide +kernel
theorem dX10_two_71 : decode cX10_two 71 = .ok (.iload_n 2, 1) := by decide +kernel
theorem dX10_two_72 : decode cX10_two 72 = .ok (.iaload, 1) := by decide +kernel
theorem dX10_two_73 : decode cX10_two 73 = .ok (.iload 7, 2) := by decide +kernel
theorem dX10_two_75 : decode cX10_two 75 = .ok (.invokevirtual 146, 3) := by decide +kernel
theorem dX10_two_78 : decode cX10_two 78 = .ok (.istore 9, 2) := by decide +kernel
theorem dX10_two_80 : decode cX10_two 80 = .ok (.iload 4, 2) := by decide +kernel
theorem dX10_two_82 : decode cX10_two 82 = .ok (.iload 8, 2) := by decide +kernel
theorem dX10_two_84 : decode cX10_two 84 = .ok (.ifCond .eq 12, 3) := by decide +kernel
theorem dX10_two_87 : decode cX10_two 87 = .ok (.iload 9, 2) := by decide +kernel
theorem dX10_two_89 : decode cX10_two 89 = .ok (.ifCond .eq 7, 3) := by decide +kernel
theorem dX10_two_92 : decode cX10_two 92 = .ok (.iconst 1, 1) := by decide +kernel
theorem dX10_two_93 : decode cX10_two 93 = .ok (.goto 4, 3) := by decide +kernel
theorem dX10_two_96 : decode cX10_two 96 = .ok (.iconst 0, 1) := by decide +kernel
theorem dX10_two_97 : decode cX10_two 97 = .ok (.iadd, 1) := by decide +kernel
theorem dX10_two_98 : decode cX10_two 98 = .ok (.istore 4, 2) := by decide +kernel
theorem dX10_two_100 : decode cX10_two 100 = .ok (.iload 5, 2) := by decide +kernel
theorem dX10_two_102 : decode cX10_two 102 = .ok (.iload 8, 2) := by decide +kernel
theorem dX10_two_104 : decode cX10_two 104 = .ok (.ifCond .eq 12, 3) := by decide +kernel
theorem dX10_two_107 : decode cX10_two 107 = .ok (.iload 9, 2) := by decide +kernel
theorem dX10_two_109 : decode cX10_two 109 = .ok (.ifCond .ne 7, 3) := by decide +kernel
theorem dX10_two_112 : decode cX10_two 112 = .ok (.iconst 1, 1) := by decide +kernel
theorem dX10_two_113 : decode cX10_two 113 = .ok (.goto 4, 3) := by decide +kernel
theorem dX10_two_116 : decode cX10_two 116 = .ok (.iconst 0, 1) := by decide +kernel
theorem dX10_two_117 : decode cX10_two 117 = .ok (.iadd, 1) := by decide +kernel
theorem dX10_two_118 : decode cX10_two 118 = .ok (.istore 5, 2) := by decide +kernel
theorem dX10_two_120 : decode cX10_two 120 = .ok (.iload 6, 2) := by decide +kernel
theorem dX10_two_122 : decode cX10_two 122 = .ok (.iload 9, 2) := by decide +kernel
theorem dX10_two_124 : decode cX10_two 124 = .ok (.ifCond .eq 12, 3) := by decide +kernel
theorem dX10_two_127 : decode cX10_two 127 = .ok (.iload 8, 2) := by decide +kernel
theorem dX10_two_129 : decode cX10_two 129 = .ok (.ifCond .ne 7, 3) := by decide +kernel
theorem dX10_two_132 : decode cX10_two 132 = .ok (.iconst 1, 1) := by decide +kernel
theorem dX10_two_133 : decode cX10_two 133 = .ok (.goto 4, 3) := by decide +kernel
theorem dX10_two_136 : decode cX10_two 136 = .ok (.iconst 0, 1) := by decide +kernel
theorem dX10_two_137 : decode cX10_two 137 = .ok (.iadd, 1) := by decide +kernel
theorem dX10_two_138 : decode cX10_two 138 = .ok (.istore 6, 2) := by decide +kernel
theorem dX10_two_140 : decode cX10_two 140 = .ok (.iinc 7 1, 3) := by decide +kernel
theorem dX10_two_143 : decode cX10_two 143 = .ok (.goto (-104), 3) := by decide +kernel
theorem dX10_two_146 : decode cX10_two 146 = .ok (.iload_n 3, 1) := by decide +kernel
theorem dX10_two_147 : decode cX10_two 147 = .ok (.tableswitch 58 0 3 #[29, 32, 41, 44], 29) := by decide +kernel
theorem dX10_two_176 : decode cX10_two 176 = .ok (.iload 4, 2) := by decide +kernel
theorem dX10_two_178 : decode cX10_two 178 = .ok (.ireturn, 1) := by decide +kernel
theorem dX10_two_179 : decode cX10_two 179 = .ok (.iload 4, 2) := by decide +kernel
theorem dX10_two_181 : decode cX10_two 181 = .ok (.iload 5, 2) := by decide +kernel
theorem dX10_two_183 : decode cX10_two 183 = .ok (.iadd, 1) := by decide +kernel
theorem dX10_two_184 : decode cX10_two 184 = .ok (.iload 6, 2) := by decide +kernel
theorem dX10_two_186 : decode cX10_two 186 = .ok (.iadd, 1) := by decide +kernel
theorem dX10_two_187 : decode cX10_two 187 = .ok (.ireturn, 1) := by decide +kernel
theorem dX10_two_188 : decode cX10_two 188 = .ok (.iload 5, 2) := by decide +kernel
theorem dX10_two_190 : decode cX10_two 190 = .ok (.ireturn, 1) := by decide +kernel
theorem dX10_two_191 : decode cX10_two 191 = .ok (.iload 5, 2) := by decide +kernel
theorem dX10_two_193 : decode cX10_two 193 = .ok (.iload 6, 2) := by decide +kernel
theorem dX10_two_195 : decode cX10_two 195 = .ok (.iadd, 1) := by decide +kernel
theorem dX10_two_196 : decode cX10_two 196 = .ok (.ifCond .ne 7, 3) := by decide +kernel
theorem dX10_two_199 : decode cX10_two 199 = .ok (.iconst 1, 1) := by decide +kernel
theorem dX10_two_200 : decode cX10_two 200 = .ok (.goto 4, 3) := by decide +kernel
theorem dX10_two_203 : decode cX10_two 203 = .ok (.iconst 0, 1) := by decide +kernel
theorem dX10_two_204 : decode cX10_two 204 = .ok (.ireturn, 1) := by decide +kernel
theorem dX10_two_205 : decode cX10_two 205 = .ok (.iload 5, 2) := by decide +kernel
theorem dX10_two_207 : decode cX10_two 207 = .ok (.ifCond .ne 7, 3) := by decide +kernel
theorem dX10_two_210 : decode cX10_two 210 = .ok (.iconst 1, 1) := by decide +kernel
theorem dX10_two_211 : decode cX10_two 211 = .ok (.goto 4, 3) := by decide +kernel
theorem dX10_two_214 : decode cX10_two 214 = .ok (.iconst 0, 1) := by decide +kernel
theorem dX10_two_215 : decode cX10_two 215 = .ok (.ireturn, 1) := by decide +kernel
theorem dX10_see_0 : decode cX10_see 0 = .ok (.iload_n 1, 1) := by decide +kernel
theorem dX10_see_1 : decode cX10_see 1 = .ok (.iconst (-1), 1) := by decide +kernel
theorem dX10_see_2 : decode cX10_see 2 = .ok (.if_icmp .ne 14, 3) := by decide +kernel
theorem dX10_see_5 : decode cX10_see 5 = .ok (.aload_n 0, 1) := by decide +kernel
theorem dX10_see_6 : decode cX10_see 6 = .ok (.getfield 11, 3) := by decide +kernel
theorem dX10_see_9 : decode cX10_see 9 = .ok (.sipush 492, 3) := by decide +kernel
theorem dX10_see_12 : decode cX10_see 12 = .ok (.iconst 0, 1) := by decide +kernel
theorem dX10_see_13 : decode cX10_see 13 = .ok (.iastore, 1) := by decide +kernel
theorem dX10_see_14 : decode cX10_see 14 = .ok (.iconst 0, 1) := by decide +kernel
theorem dX10_see_15 : decode cX10_see 15 = .ok (.ireturn, 1) := by decide +kernel
theorem dX10_see_16 : decode cX10_see 16 = .ok (.aload_n 0, 1) := by decide +kernel
theorem dX10_see_17 : decode cX10_see 17 = .ok (.iload_n 1, 1) := by decide +kernel
theorem dX10_see_18 : decode cX10_see 18 = .ok (.invokevirtual 71, 3) := by decide +kernel
theorem dX10_see_21 : decode cX10_see 21 = .ok (.ifCond .ne 5, 3) := by decide +kernel
theorem dX10_see_24 : decode cX10_see 24 = .ok (.iconst (-1), 1) := by decide +kernel
theorem dX10_see_25 : decode cX10_see 25 = .ok (.ireturn, 1) := by decide +kernel
theorem dX10_see_26 : decode cX10_see 26 = .ok (.aload_n 0, 1) := by decide +kernel
theorem dX10_see_27 : decode cX10_see 27 = .ok (.getfield 11, 3) := by decide +kernel
theorem dX10_see_30 : decode cX10_see 30 = .ok (.sipush 492, 3) := by decide +kernel
theorem dX10_see_33 : decode cX10_see 33 = .ok (.iaload, 1) := by decide +kernel
theorem dX10_see_34 : decode cX10_see 34 = .ok (.bipush 6, 2) := by decide +kernel
theorem dX10_see_36 : decode cX10_see 36 = .ok (.if_icmp .ne 6, 3) := by decide +kernel
theorem dX10_see_39 : decode cX10_see 39 = .ok (.bipush (-4), 2) := by decide +kernel
theorem dX10_see_41 : decode cX10_see 41 = .ok (.ireturn, 1) := by decide +kernel
theorem dX10_see_42 : decode cX10_see 42 = .ok (.aload_n 0, 1) := by decide +kernel
theorem dX10_see_43 : decode cX10_see 43 = .ok (.getfield 11, 3) := by decide +kernel
theorem dX10_see_46 : decode cX10_see 46 = .ok (.sipush 493, 3) := by decide +kernel
theorem dX10_see_49 : decode cX10_see 49 = .ok (.iconst 2, 1) := by decide +kernel
theorem dX10_see_50 : decode cX10_see 50 = .ok (.aload_n 0, 1) := by decide +kernel
theorem dX10_see_51 : decode cX10_see 51 = .ok (.getfield 11, 3) := by decide +kernel
theorem dX10_see_54 : decode cX10_see 54 = .ok (.sipush 492, 3) := by decide +kernel
theorem dX10_see_57 : decode cX10_see 57 = .ok (.iaload, 1) := by decide +kernel
theorem dX10_see_58 : decode cX10_see 58 = .ok (.imul, 1) := by decide +kernel
theorem dX10_see_59 : decode cX10_see 59 = .ok (.iadd, 1) := by decide +kernel
theorem dX10_see_60 : decode cX10_see 60 = .ok (.iload_n 1, 1) := by decide +kernel
theorem dX10_see_61 : decode cX10_see 61 = .ok (.iastore, 1) := by decide +kernel
theorem dX10_see_62 : decode cX10_see 62 = .ok (.aload_n 0, 1) := by decide +kernel
theorem dX10_see_63 : decode cX10_see 63 = .ok (.getfield 11, 3) := by decide +kernel
theorem dX10_see_66 : decode cX10_see 66 = .ok (.sipush 493, 3) := by decide +kernel
theorem dX10_see_69 : decode cX10_see 69 = .ok (.iconst 2, 1) := by decide +kernel
theorem dX10_see_70 : decode cX10_see 70 = .ok (.aload_n 0, 1) := by decide +kernel
theorem dX10_see_71 : decode cX10_see 71 = .ok (.getfield 11, 3) := by decide +kernel
theorem dX10_see_74 : decode cX10_see 74 = .ok (.sipush 492, 3) := by decide +kernel
theorem dX10_see_77 : decode cX10_see 77 = .ok (.iaload, 1) := by decide +kernel
theorem dX10_see_78 : decode cX10_see 78 = .ok (.imul, 1) := by decide +kernel
theorem dX10_see_79 : decode cX10_see 79 = .ok (.iadd, 1) := by decide +kernel
theorem dX10_see_80 : decode cX10_see 80 = .ok (.iconst 1, 1) := by decide +kernel
theorem dX10_see_81 : decode cX10_see 81 = .ok (.iadd, 1) := by decide +kernel
theorem dX10_see_82 : decode cX10_see 82 = .ok (.iload_n 2, 1) := by decide +kernel
theorem dX10_see_83 : decode cX10_see 83 = .ok (.ifCond .eq 7, 3) := by decide +kernel
theorem dX10_see_86 : decode cX10_see 86 = .ok (.iconst 1, 1) := by decide +kernel
theorem dX10_see_87 : decode cX10_see 87 = .ok (.goto 4, 3) := by decide +kernel
theorem dX10_see_90 : decode cX10_see 90 = .ok (.iconst 0, 1) := by decide +kernel
theorem dX10_see_91 : decode cX10_see 91 = .ok (.iastore, 1) := by decide +kernel
theorem dX10_see_92 : decode cX10_see 92 = .ok (.aload_n 0, 1) := by decide +kernel
theorem dX10_see_93 : decode cX10_see 93 = .ok (.getfield 11, 3) := by decide +kernel
theorem dX10_see_96 : decode cX10_see 96 = .ok (.sipush 492, 3) := by decide +kernel
theorem dX10_see_99 : decode cX10_see 99 = .ok (.dup2, 1) := by decide +kernel
theorem dX10_see_100 : decode cX10_see 100 = .ok (.iaload, 1) := by decide +kernel
theorem dX10_see_101 : decode cX10_see 101 = .ok (.iconst 1, 1) := by decide +kernel
theorem dX10_see_102 : decode cX10_see 102 = .ok (.iadd, 1) := by decide +kernel
theorem dX10_see_103 : decode cX10_see 103 = .ok (.iastore, 1) := by decide +kernel
theorem dX10_see_104 : decode cX10_see 104 = .ok (.aload_n 0, 1) := by decide +kernel
theorem dX10_see_105 : decode cX10_see 105 = .ok (.getfield 11, 3) := by decide +kernel
theorem dX10_see_108 : decode cX10_see 108 = .ok (.sipush 492, 3) := by decide +kernel
theorem dX10_see_111 : decode cX10_see 111 = .ok (.iaload, 1) := by decide +kernel
theorem dX10_see_112 : decode cX10_see 112 = .ok (.ireturn, 1) := by decide +kernel
theorem dX10_isSeen_0 : decode cX10_isSeen 0 = .ok (.iconst 0, 1) := by decide +kernel
theorem dX10_isSeen_1 : decode cX10_isSeen 1 = .ok (.istore_n 3, 1) := by decide +kernel
theorem dX10_isSeen_2 : decode cX10_isSeen 2 = .ok (.iload_n 3, 1) := by decide +kernel
theorem dX10_isSeen_3 : decode cX10_isSeen 3 = .ok (.aload_n 0, 1) := by decide +kernel
theorem dX10_isSeen_4 : decode cX10_isSeen 4 = .ok (.getfield 11, 3) := by decide +kernel
theorem dX10_isSeen_7 : decode cX10_isSeen 7 = .ok (.sipush 492, 3) := by decide +kernel
theorem dX10_isSeen_10 : decode cX10_isSeen 10 = .ok (.iaload, 1) := by decide +kernel
theorem dX10_isSeen_11 : decode cX10_isSeen 11 = .ok (.if_icmp .ge 80, 3) := by decide +kernel
theorem dX10_isSeen_14 : decode cX10_isSeen 14 = .ok (.aload_n 0, 1) := by decide +kernel
theorem dX10_isSeen_15 : decode cX10_isSeen 15 = .ok (.getfield 11, 3) := by decide +kernel
theorem dX10_isSeen_18 : decode cX10_isSeen 18 = .ok (.sipush 493, 3) := by decide +kernel
theorem dX10_isSeen_21 : decode cX10_isSeen 21 = .ok (.iconst 2, 1) := by decide +kernel
theorem dX10_isSeen_22 : decode cX10_isSeen 22 = .ok (.iload_n 3, 1) := by decide +kernel
theorem dX10_isSeen_23 : decode cX10_isSeen 23 = .ok (.imul, 1) := by decide +kernel
theorem dX10_isSeen_24 : decode cX10_isSeen 24 = .ok (.iadd, 1) := by decide +kernel
theorem dX10_isSeen_25 : decode cX10_isSeen 25 = .ok (.iaload, 1) := by decide +kernel
theorem dX10_isSeen_26 : decode cX10_isSeen 26 = .ok (.istore 4, 2) := by decide +kernel
theorem dX10_isSeen_28 : decode cX10_isSeen 28 = .ok (.aload_n 0, 1) := by decide +kernel
theorem dX10_isSeen_29 : decode cX10_isSeen 29 = .ok (.iload 4, 2) := by decide +kernel
theorem dX10_isSeen_31 : decode cX10_isSeen 31 = .ok (.invokevirtual 71, 3) := by decide +kernel
theorem dX10_isSeen_34 : decode cX10_isSeen 34 = .ok (.ifCond .eq 49, 3) := by decide +kernel
theorem dX10_isSeen_37 : decode cX10_isSeen 37 = .ok (.aload_n 0, 1) := by decide +kernel
theorem dX10_isSeen_38 : decode cX10_isSeen 38 = .ok (.getfield 11, 3) := by decide +kernel
theorem dX10_isSeen_41 : decode cX10_isSeen 41 = .ok (.iconst 4, 1) := by decide +kernel
theorem dX10_isSeen_42 : decode cX10_isSeen 42 = .ok (.iload 4, 2) := by decide +kernel
theorem dX10_isSeen_44 : decode cX10_isSeen 44 = .ok (.imul, 1) := by decide +kernel
theorem dX10_isSeen_45 : decode cX10_isSeen 45 = .ok (.iload_n 1, 1) := by decide +kernel
theorem dX10_isSeen_46 : decode cX10_isSeen 46 = .ok (.iadd, 1) := by decide +kernel
theorem dX10_isSeen_47 : decode cX10_isSeen 47 = .ok (.iaload, 1) := by decide +kernel
theorem dX10_isSeen_48 : decode cX10_isSeen 48 = .ok (.iload_n 2, 1) := by decide +kernel
theorem dX10_isSeen_49 : decode cX10_isSeen 49 = .ok (.if_icmp .ge 7, 3) := by decide +kernel
theorem dX10_isSeen_52 : decode cX10_isSeen 52 = .ok (.iconst 1, 1) := by decide +kernel
theorem dX10_isSeen_53 : decode cX10_isSeen 53 = .ok (.goto 4, 3) := by decide +kernel
theorem dX10_isSeen_56 : decode cX10_isSeen 56 = .ok (.iconst 0, 1) := by decide +kernel
theorem dX10_isSeen_57 : decode cX10_isSeen 57 = .ok (.aload_n 0, 1) := by decide +kernel
theorem dX10_isSeen_58 : decode cX10_isSeen 58 = .ok (.getfield 11, 3) := by decide +kernel
theorem dX10_isSeen_61 : decode cX10_isSeen 61 = .ok (.sipush 493, 3) := by decide +kernel
theorem dX10_isSeen_64 : decode cX10_isSeen 64 = .ok (.iconst 2, 1) := by decide +kernel
theorem dX10_isSeen_65 : decode cX10_isSeen 65 = .ok (.iload_n 3, 1) := by decide +kernel
theorem dX10_isSeen_66 : decode cX10_isSeen 66 = .ok (.imul, 1) := by decide +kernel
theorem dX10_isSeen_67 : decode cX10_isSeen 67 = .ok (.iadd, 1) := by decide +kernel
theorem dX10_isSeen_68 : decode cX10_isSeen 68 = .ok (.iconst 1, 1) := by decide +kernel
theorem dX10_isSeen_69 : decode cX10_isSeen 69 = .ok (.iadd, 1) := by decide +kernel
theorem dX10_isSeen_70 : decode cX10_isSeen 70 = .ok (.iaload, 1) := by decide +kernel
theorem dX10_isSeen_71 : decode cX10_isSeen 71 = .ok (.iconst 1, 1) := by decide +kernel
theorem dX10_isSeen_72 : decode cX10_isSeen 72 = .ok (.if_icmp .ne 7, 3) := by decide +kernel
theorem dX10_isSeen_75 : decode cX10_isSeen 75 = .ok (.iconst 1, 1) := by decide +kernel
theorem dX10_isSeen_76 : decode cX10_isSeen 76 = .ok (.goto 4, 3) := by decide +kernel
theorem dX10_isSeen_79 : decode cX10_isSeen 79 = .ok (.iconst 0, 1) := by decide +kernel
theorem dX10_isSeen_80 : decode cX10_isSeen 80 = .ok (.if_icmp .eq 5, 3) := by decide +kernel
theorem dX10_isSeen_83 : decode cX10_isSeen 83 = .ok (.iconst 0, 1) := by decide +kernel
theorem dX10_isSeen_84 : decode cX10_isSeen 84 = .ok (.ireturn, 1) := by decide +kernel
theorem dX10_isSeen_85 : decode cX10_isSeen 85 = .ok (.iinc 3 1, 3) := by decide +kernel
theorem dX10_isSeen_88 : decode cX10_isSeen 88 = .ok (.goto (-86), 3) := by decide +kernel
theorem dX10_isSeen_91 : decode cX10_isSeen 91 = .ok (.iconst 1, 1) := by decide +kernel
theorem dX10_isSeen_92 : decode cX10_isSeen 92 = .ok (.ireturn, 1) := by decide +kernel
theorem dX10_bounds_0 : decode cX10_bounds 0 = .ok (.iload_n 1, 1) := by decide +kernel
theorem dX10_bounds_1 : decode cX10_bounds 1 = .ok (.iconst 0, 1) := by decide +kernel
theorem dX10_bounds_2 : decode cX10_bounds 2 = .ok (.iconst 3, 1) := by decide +kernel
theorem dX10_bounds_3 : decode cX10_bounds 3 = .ok (.invokestatic 63, 3) := by decide +kernel
theorem dX10_bounds_6 : decode cX10_bounds 6 = .ok (.ifCond .eq 12, 3) := by decide +kernel
theorem dX10_bounds_9 : decode cX10_bounds 9 = .ok (.iload_n 2, 1) := by decide +kernel
theorem dX10_bounds_10 : decode cX10_bounds 10 = .ok (.iconst 0, 1) := by decide +kernel
theorem dX10_bounds_11 : decode cX10_bounds 11 = .ok (.iconst 1, 1) := by decide +kernel
theorem dX10_bounds_12 : decode cX10_bounds 12 = .ok (.invokestatic 63, 3) := by decide +kernel
theorem dX10_bounds_15 : decode cX10_bounds 15 = .ok (.ifCond .ne 5, 3) := by decide +kernel
theorem dX10_bounds_18 : decode cX10_bounds 18 = .ok (.iconst (-1), 1) := by decide +kernel
theorem dX10_bounds_19 : decode cX10_bounds 19 = .ok (.ireturn, 1) := by decide +kernel
theorem dX10_bounds_20 : decode cX10_bounds 20 = .ok (.iconst 0, 1) := by decide +kernel
theorem dX10_bounds_21 : decode cX10_bounds 21 = .ok (.istore_n 3, 1) := by decide +kernel
theorem dX10_bounds_22 : decode cX10_bounds 22 = .ok (.bipush (-5), 2) := by decide +kernel
theorem dX10_bounds_24 : decode cX10_bounds 24 = .ok (.istore 4, 2) := by decide +kernel
theorem dX10_bounds_26 : decode cX10_bounds 26 = .ok (.bipush 15, 2) := by decide +kernel
theorem dX10_bounds_28 : decode cX10_bounds 28 = .ok (.istore 5, 2) := by decide +kernel
theorem dX10_bounds_30 : decode cX10_bounds 30 = .ok (.iload 5, 2) := by decide +kernel
theorem dX10_bounds_32 : decode cX10_bounds 32 = .ok (.ifCond .lt 26, 3) := by decide +kernel
theorem dX10_bounds_35 : decode cX10_bounds 35 = .ok (.aload_n 0, 1) := by decide +kernel
theorem dX10_bounds_36 : decode cX10_bounds 36 = .ok (.iload_n 1, 1) := by decide +kernel
theorem dX10_bounds_37 : decode cX10_bounds 37 = .ok (.iload 5, 2) := by decide +kernel
theorem dX10_bounds_39 : decode cX10_bounds 39 = .ok (.invokevirtual 176, 3) := by decide +kernel
theorem dX10_bounds_42 : decode cX10_bounds 42 = .ok (.ifCond .eq 10, 3) := by decide +kernel
theorem dX10_bounds_45 : decode cX10_bounds 45 = .ok (.iinc 3 1, 3) := by decide +kernel
theorem dX10_bounds_48 : decode cX10_bounds 48 = .ok (.iload 5, 2) := by decide +kernel
theorem dX10_bounds_50 : decode cX10_bounds 50 = .ok (.istore 4, 2) := by decide +kernel
theorem dX10_bounds_52 : decode cX10_bounds 52 = .ok (.iinc 5 (-1), 3) := by decide +kernel
theorem dX10_bounds_55 : decode cX10_bounds 55 = .ok (.goto (-25), 3) := by decide +kernel
theorem dX10_bounds_58 : decode cX10_bounds 58 = .ok (.iload_n 2, 1) := by decide +kernel
theorem dX10_bounds_59 : decode cX10_bounds 59 = .ok (.ifCond .ne 7, 3) := by decide +kernel
theorem dX10_bounds_62 : decode cX10_bounds 62 = .ok (.iload_n 3, 1) := by decide +kernel
theorem dX10_bounds_63 : decode cX10_bounds 63 = .ok (.goto 5, 3) := by decide +kernel
theorem dX10_bounds_66 : decode cX10_bounds 66 = .ok (.iload 4, 2) := by decide +kernel
theorem dX10_bounds_68 : decode cX10_bounds 68 = .ok (.ireturn, 1) := by decide +kernel
theorem dX10_common_0 : decode cX10_common 0 = .ok (.iload_n 0, 1) := by decide +kernel
theorem dX10_common_1 : decode cX10_common 1 = .ok (.istore_n 2, 1) := by decide +kernel
theorem dX10_common_2 : decode cX10_common 2 = .ok (.iload_n 1, 1) := by decide +kernel
theorem dX10_common_3 : decode cX10_common 3 = .ok (.istore_n 3, 1) := by decide +kernel
theorem dX10_common_4 : decode cX10_common 4 = .ok (.iload_n 3, 1) := by decide +kernel
theorem dX10_common_5 : decode cX10_common 5 = .ok (.ifCond .eq 16, 3) := by decide +kernel
theorem dX10_common_8 : decode cX10_common 8 = .ok (.iload_n 2, 1) := by decide +kernel
theorem dX10_common_9 : decode cX10_common 9 = .ok (.iload_n 3, 1) := by decide +kernel
theorem dX10_common_10 : decode cX10_common 10 = .ok (.irem, 1) := by decide +kernel
theorem dX10_common_11 : decode cX10_common 11 = .ok (.istore 4, 2) := by decide +kernel
theorem dX10_common_13 : decode cX10_common 13 = .ok (.iload_n 3, 1) := by decide +kernel
theorem dX10_common_14 : decode cX10_common 14 = .ok (.istore_n 2, 1) := by decide +kernel
theorem dX10_common_15 : decode cX10_common 15 = .ok (.iload 4, 2) := by decide +kernel
theorem dX10_common_17 : decode cX10_common 17 = .ok (.istore_n 3, 1) := by decide +kernel
theorem dX10_common_18 : decode cX10_common 18 = .ok (.goto (-14), 3) := by decide +kernel
theorem dX10_common_21 : decode cX10_common 21 = .ok (.iload_n 2, 1) := by decide +kernel
theorem dX10_common_22 : decode cX10_common 22 = .ok (.ireturn, 1) := by decide +kernel
theorem dX10_part_0 : decode cX10_part 0 = .ok (.iload_n 0, 1) := by decide +kernel
theorem dX10_part_1 : decode cX10_part 1 = .ok (.iload_n 1, 1) := by decide +kernel
theorem dX10_part_2 : decode cX10_part 2 = .ok (.invokestatic 179, 3) := by decide +kernel
theorem dX10_part_5 : decode cX10_part 5 = .ok (.istore_n 3, 1) := by decide +kernel
theorem dX10_part_6 : decode cX10_part 6 = .ok (.iload_n 2, 1) := by decide +kernel
theorem dX10_part_7 : decode cX10_part 7 = .ok (.ifCond .ne 10, 3) := by decide +kernel
theorem dX10_part_10 : decode cX10_part 10 = .ok (.iload_n 0, 1) := by decide +kernel
theorem dX10_part_11 : decode cX10_part 11 = .ok (.iload_n 3, 1) := by decide +kernel
theorem dX10_part_12 : decode cX10_part 12 = .ok (.idiv, 1) := by decide +kernel
theorem dX10_part_13 : decode cX10_part 13 = .ok (.i2l, 1) := by decide +kernel
theorem dX10_part_14 : decode cX10_part 14 = .ok (.goto 7, 3) := by decide +kernel
theorem dX10_part_17 : decode cX10_part 17 = .ok (.iload_n 1, 1) := by decide +kernel
theorem dX10_part_18 : decode cX10_part 18 = .ok (.iload_n 3, 1) := by decide +kernel
theorem dX10_part_19 : decode cX10_part 19 = .ok (.idiv, 1) := by decide +kernel
theorem dX10_part_20 : decode cX10_part 20 = .ok (.i2l, 1) := by decide +kernel
theorem dX10_part_21 : decode cX10_part 21 = .ok (.lreturn, 1) := by decide +kernel
theorem dX10_odds_0 : decode cX10_odds 0 = .ok (.aload_n 0, 1) := by decide +kernel
theorem dX10_odds_1 : decode cX10_odds 1 = .ok (.iload_n 1, 1) := by decide +kernel
theorem dX10_odds_2 : decode cX10_odds 2 = .ok (.invokevirtual 163, 3) := by decide +kernel
theorem dX10_odds_5 : decode cX10_odds 5 = .ok (.ifCond .eq 23, 3) := by decide +kernel
theorem dX10_odds_8 : decode cX10_odds 8 = .ok (.iload_n 2, 1) := by decide +kernel
theorem dX10_odds_9 : decode cX10_odds 9 = .ok (.iconst 0, 1) := by decide +kernel
theorem dX10_odds_10 : decode cX10_odds 10 = .ok (.iconst 1, 1) := by decide +kernel
theorem dX10_odds_11 : decode cX10_odds 11 = .ok (.invokestatic 63, 3) := by decide +kernel
theorem dX10_odds_14 : decode cX10_odds 14 = .ok (.ifCond .eq 14, 3) := by decide +kernel
theorem dX10_odds_17 : decode cX10_odds 17 = .ok (.aload_n 0, 1) := by decide +kernel
theorem dX10_odds_18 : decode cX10_odds 18 = .ok (.getfield 11, 3) := by decide +kernel
theorem dX10_odds_21 : decode cX10_odds 21 = .ok (.sipush 480, 3) := by decide +kernel
theorem dX10_odds_24 : decode cX10_odds 24 = .ok (.iaload, 1) := by decide +kernel
theorem dX10_odds_25 : decode cX10_odds 25 = .ok (.ifCond .ne 7, 3) := by decide +kernel
theorem dX10_odds_28 : decode cX10_odds 28 = .ok (.ldc2_w 182, 3) := by decide +kernel
theorem dX10_odds_31 : decode cX10_odds 31 = .ok (.lreturn, 1) := by decide +kernel
theorem dX10_odds_32 : decode cX10_odds 32 = .ok (.aload_n 0, 1) := by decide +kernel
theorem dX10_odds_33 : decode cX10_odds 33 = .ok (.aload_n 0, 1) := by decide +kernel
theorem dX10_odds_34 : decode cX10_odds 34 = .ok (.getfield 21, 3) := by decide +kernel
theorem dX10_odds_37 : decode cX10_odds 37 = .ok (.iload_n 1, 1) := by decide +kernel
theorem dX10_odds_38 : decode cX10_odds 38 = .ok (.iaload, 1) := by decide +kernel
theorem dX10_odds_39 : decode cX10_odds 39 = .ok (.invokevirtual 166, 3) := by decide +kernel
theorem dX10_odds_42 : decode cX10_odds 42 = .ok (.aload_n 0, 1) := by decide +kernel
theorem dX10_odds_43 : decode cX10_odds 43 = .ok (.getfield 11, 3) := by decide +kernel
theorem dX10_odds_46 : decode cX10_odds 46 = .ok (.sipush 480, 3) := by decide +kernel
theorem dX10_odds_49 : decode cX10_odds 49 = .ok (.iaload, 1) := by decide +kernel
theorem dX10_odds_50 : decode cX10_odds 50 = .ok (.iload_n 2, 1) := by decide +kernel
theorem dX10_odds_51 : decode cX10_odds 51 = .ok (.invokestatic 184, 3) := by decide +kernel
theorem dX10_odds_54 : decode cX10_odds 54 = .ok (.lreturn, 1) := by decide +kernel
theorem dX10_mean_0 : decode cX10_mean 0 = .ok (.aload_n 0, 1) := by decide +kernel
theorem dX10_mean_1 : decode cX10_mean 1 = .ok (.iload_n 1, 1) := by decide +kernel
theorem dX10_mean_2 : decode cX10_mean 2 = .ok (.invokevirtual 163, 3) := by decide +kernel
theorem dX10_mean_5 : decode cX10_mean 5 = .ok (.ifCond .eq 21, 3) := by decide +kernel
theorem dX10_mean_8 : decode cX10_mean 8 = .ok (.iload_n 2, 1) := by decide +kernel
theorem dX10_mean_9 : decode cX10_mean 9 = .ok (.iconst 0, 1) := by decide +kernel
theorem dX10_mean_10 : decode cX10_mean 10 = .ok (.iconst 3, 1) := by decide +kernel
theorem dX10_mean_11 : decode cX10_mean 11 = .ok (.invokestatic 63, 3) := by decide +kernel
theorem dX10_mean_14 : decode cX10_mean 14 = .ok (.ifCond .eq 12, 3) := by decide +kernel
theorem dX10_mean_17 : decode cX10_mean 17 = .ok (.iload_n 3, 1) := by decide +kernel
theorem dX10_mean_18 : decode cX10_mean 18 = .ok (.iconst 0, 1) := by decide +kernel
theorem dX10_mean_19 : decode cX10_mean 19 = .ok (.iconst 1, 1) := by decide +kernel
theorem dX10_mean_20 : decode cX10_mean 20 = .ok (.invokestatic 63, 3) := by decide +kernel
theorem dX10_mean_23 : decode cX10_mean 23 = .ok (.ifCond .ne 7, 3) := by decide +kernel
theorem dX10_mean_26 : decode cX10_mean 26 = .ok (.ldc2_w 182, 3) := by decide +kernel
theorem dX10_mean_29 : decode cX10_mean 29 = .ok (.lreturn, 1) := by decide +kernel
theorem dX10_mean_30 : decode cX10_mean 30 = .ok (.aload_n 0, 1) := by decide +kernel
theorem dX10_mean_31 : decode cX10_mean 31 = .ok (.aload_n 0, 1) := by decide +kernel
theorem dX10_mean_32 : decode cX10_mean 32 = .ok (.getfield 21, 3) := by decide +kernel
theorem dX10_mean_35 : decode cX10_mean 35 = .ok (.iload_n 1, 1) := by decide +kernel
theorem dX10_mean_36 : decode cX10_mean 36 = .ok (.iaload, 1) := by decide +kernel
theorem dX10_mean_37 : decode cX10_mean 37 = .ok (.iload_n 2, 1) := by decide +kernel
theorem dX10_mean_38 : decode cX10_mean 38 = .ok (.invokevirtual 172, 3) := by decide +kernel
theorem dX10_mean_41 : decode cX10_mean 41 = .ok (.iconst 0, 1) := by decide +kernel
theorem dX10_mean_42 : decode cX10_mean 42 = .ok (.istore 4, 2) := by decide +kernel
theorem dX10_mean_44 : decode cX10_mean 44 = .ok (.iconst 0, 1) := by decide +kernel
theorem dX10_mean_45 : decode cX10_mean 45 = .ok (.istore 5, 2) := by decide +kernel
theorem dX10_mean_47 : decode cX10_mean 47 = .ok (.iconst 0, 1) := by decide +kernel
theorem dX10_mean_48 : decode cX10_mean 48 = .ok (.istore 6, 2) := by decide +kernel
theorem dX10_mean_50 : decode cX10_mean 50 = .ok (.iload 6, 2) := by decide +kernel
theorem dX10_mean_52 : decode cX10_mean 52 = .ok (.bipush 16, 2) := by decide +kernel
theorem dX10_mean_54 : decode cX10_mean 54 = .ok (.if_icmp .ge 36, 3) := by decide +kernel
theorem dX10_mean_57 : decode cX10_mean 57 = .ok (.iload 4, 2) := by decide +kernel
theorem dX10_mean_59 : decode cX10_mean 59 = .ok (.aload_n 0, 1) := by decide +kernel
theorem dX10_mean_60 : decode cX10_mean 60 = .ok (.getfield 45, 3) := by decide +kernel
theorem dX10_mean_63 : decode cX10_mean 63 = .ok (.iload 6, 2) := by decide +kernel
theorem dX10_mean_65 : decode cX10_mean 65 = .ok (.iaload, 1) := by decide +kernel
theorem dX10_mean_66 : decode cX10_mean 66 = .ok (.iadd, 1) := by decide +kernel
theorem dX10_mean_67 : decode cX10_mean 67 = .ok (.istore 4, 2) := by decide +kernel
theorem dX10_mean_69 : decode cX10_mean 69 = .ok (.iload 5, 2) := by decide +kernel
theorem dX10_mean_71 : decode cX10_mean 71 = .ok (.iload 6, 2) := by decide +kernel
theorem dX10_mean_73 : decode cX10_mean 73 = .ok (.aload_n 0, 1) := by decide +kernel
theorem dX10_mean_74 : decode cX10_mean 74 = .ok (.getfield 45, 3) := by decide +kernel
theorem dX10_mean_77 : decode cX10_mean 77 = .ok (.iload 6, 2) := by decide +kernel
theorem dX10_mean_79 : decode cX10_mean 79 = .ok (.iaload, 1) := by decide +kernel
theorem dX10_mean_80 : decode cX10_mean 80 = .ok (.imul, 1) := by decide +kernel
theorem dX10_mean_81 : decode cX10_mean 81 = .ok (.iadd, 1) := by decide +kernel
theorem dX10_mean_82 : decode cX10_mean 82 = .ok (.istore 5, 2) := by decide +kernel
theorem dX10_mean_84 : decode cX10_mean 84 = .ok (.iinc 6 1, 3) := by decide +kernel
theorem dX10_mean_87 : decode cX10_mean 87 = .ok (.goto (-37), 3) := by decide +kernel
theorem dX10_mean_90 : decode cX10_mean 90 = .ok (.iload 4, 2) := by decide +kernel
theorem dX10_mean_92 : decode cX10_mean 92 = .ok (.ifCond .ne 9, 3) := by decide +kernel
theorem dX10_mean_95 : decode cX10_mean 95 = .ok (.ldc2_w 182, 3) := by decide +kernel
theorem dX10_mean_98 : decode cX10_mean 98 = .ok (.goto 11, 3) := by decide +kernel
theorem dX10_mean_101 : decode cX10_mean 101 = .ok (.iload 5, 2) := by decide +kernel
theorem dX10_mean_103 : decode cX10_mean 103 = .ok (.iload 4, 2) := by decide +kernel
theorem dX10_mean_105 : decode cX10_mean 105 = .ok (.iload_n 3, 1) := by decide +kernel
theorem dX10_mean_106 : decode cX10_mean 106 = .ok (.invokestatic 184, 3) := by decide +kernel
theorem dX10_mean_109 : decode cX10_mean 109 = .ok (.lreturn, 1) := by decide +kernel
theorem dX10_plan_0 : decode cX10_plan 0 = .ok (.iload_n 1, 1) := by decide +kernel
theorem dX10_plan_1 : decode cX10_plan 1 = .ok (.iconst (-1), 1) := by decide +kernel
theorem dX10_plan_2 : decode cX10_plan 2 = .ok (.if_icmp .ne 14, 3) := by decide +kernel
theorem dX10_plan_5 : decode cX10_plan 5 = .ok (.aload_n 0, 1) := by decide +kernel
theorem dX10_plan_6 : decode cX10_plan 6 = .ok (.getfield 11, 3) := by decide +kernel
theorem dX10_plan_9 : decode cX10_plan 9 = .ok (.sipush 505, 3) := by decide +kernel
theorem dX10_plan_12 : decode cX10_plan 12 = .ok (.iconst 0, 1) := by decide +kernel
theorem dX10_plan_13 : decode cX10_plan 13 = .ok (.iastore, 1) := by decide +kernel
theorem dX10_plan_14 : decode cX10_plan 14 = .ok (.iconst 0, 1) := by decide +kernel
theorem dX10_plan_15 : decode cX10_plan 15 = .ok (.ireturn, 1) := by decide +kernel
theorem dX10_plan_16 : decode cX10_plan 16 = .ok (.iload_n 1, 1) := by decide +kernel
theorem dX10_plan_17 : decode cX10_plan 17 = .ok (.iconst 0, 1) := by decide +kernel
theorem dX10_plan_18 : decode cX10_plan 18 = .ok (.iconst 2, 1) := by decide +kernel
theorem dX10_plan_19 : decode cX10_plan 19 = .ok (.invokestatic 63, 3) := by decide +kernel
theorem dX10_plan_22 : decode cX10_plan 22 = .ok (.ifCond .eq 39, 3) := by decide +kernel
theorem dX10_plan_25 : decode cX10_plan 25 = .ok (.iload_n 1, 1) := by decide +kernel
theorem dX10_plan_26 : decode cX10_plan 26 = .ok (.iconst 1, 1) := by decide +kernel
theorem dX10_plan_27 : decode cX10_plan 27 = .ok (.if_icmp .ne 11, 3) := by decide +kernel
theorem dX10_plan_30 : decode cX10_plan 30 = .ok (.aload_n 0, 1) := by decide +kernel
theorem dX10_plan_31 : decode cX10_plan 31 = .ok (.iload_n 2, 1) := by decide +kernel
theorem dX10_plan_32 : decode cX10_plan 32 = .ok (.invokevirtual 71, 3) := by decide +kernel
theorem dX10_plan_35 : decode cX10_plan 35 = .ok (.ifCond .eq 26, 3) := by decide +kernel
theorem dX10_plan_38 : decode cX10_plan 38 = .ok (.iload_n 1, 1) := by decide +kernel
theorem dX10_plan_39 : decode cX10_plan 39 = .ok (.iconst 2, 1) := by decide +kernel
theorem dX10_plan_40 : decode cX10_plan 40 = .ok (.if_icmp .ne 23, 3) := by decide +kernel
theorem dX10_plan_43 : decode cX10_plan 43 = .ok (.iload_n 2, 1) := by decide +kernel
theorem dX10_plan_44 : decode cX10_plan 44 = .ok (.iconst 0, 1) := by decide +kernel
theorem dX10_plan_45 : decode cX10_plan 45 = .ok (.aload_n 0, 1) := by decide +kernel
theorem dX10_plan_46 : decode cX10_plan 46 = .ok (.getfield 11, 3) := by decide +kernel
theorem dX10_plan_49 : decode cX10_plan 49 = .ok (.sipush 481, 3) := by decide +kernel
theorem dX10_plan_52 : decode cX10_plan 52 = .ok (.iaload, 1) := by decide +kernel
theorem dX10_plan_53 : decode cX10_plan 53 = .ok (.iconst 1, 1) := by decide +kernel
theorem dX10_plan_54 : decode cX10_plan 54 = .ok (.isub, 1) := by decide +kernel
theorem dX10_plan_55 : decode cX10_plan 55 = .ok (.invokestatic 63, 3) := by decide +kernel
theorem dX10_plan_58 : decode cX10_plan 58 = .ok (.ifCond .ne 5, 3) := by decide +kernel
theorem dX10_plan_61 : decode cX10_plan 61 = .ok (.iconst (-1), 1) := by decide +kernel
theorem dX10_plan_62 : decode cX10_plan 62 = .ok (.ireturn, 1) := by decide +kernel
theorem dX10_plan_63 : decode cX10_plan 63 = .ok (.aload_n 0, 1) := by decide +kernel
theorem dX10_plan_64 : decode cX10_plan 64 = .ok (.getfield 11, 3) := by decide +kernel
theorem dX10_plan_67 : decode cX10_plan 67 = .ok (.sipush 505, 3) := by decide +kernel
theorem dX10_plan_70 : decode cX10_plan 70 = .ok (.iaload, 1) := by decide +kernel
theorem dX10_plan_71 : decode cX10_plan 71 = .ok (.bipush 10, 2) := by decide +kernel
theorem dX10_plan_73 : decode cX10_plan 73 = .ok (.if_icmp .ne 6, 3) := by decide +kernel
theorem dX10_plan_76 : decode cX10_plan 76 = .ok (.bipush (-4), 2) := by decide +kernel
theorem dX10_plan_78 : decode cX10_plan 78 = .ok (.ireturn, 1) := by decide +kernel
theorem dX10_plan_79 : decode cX10_plan 79 = .ok (.aload_n 0, 1) := by decide +kernel
theorem dX10_plan_80 : decode cX10_plan 80 = .ok (.getfield 11, 3) := by decide +kernel
theorem dX10_plan_83 : decode cX10_plan 83 = .ok (.sipush 506, 3) := by decide +kernel
theorem dX10_plan_86 : decode cX10_plan 86 = .ok (.iconst 2, 1) := by decide +kernel
theorem dX10_plan_87 : decode cX10_plan 87 = .ok (.aload_n 0, 1) := by decide +kernel
theorem dX10_plan_88 : decode cX10_plan 88 = .ok (.getfield 11, 3) := by decide +kernel
theorem dX10_plan_91 : decode cX10_plan 91 = .ok (.sipush 505, 3) := by decide +kernel
theorem dX10_plan_94 : decode cX10_plan 94 = .ok (.iaload, 1) := by decide +kernel
theorem dX10_plan_95 : decode cX10_plan 95 = .ok (.imul, 1) := by decide +kernel
theorem dX10_plan_96 : decode cX10_plan 96 = .ok (.iadd, 1) := by decide +kernel
theorem dX10_plan_97 : decode cX10_plan 97 = .ok (.iload_n 1, 1) := by decide +kernel
theorem dX10_plan_98 : decode cX10_plan 98 = .ok (.iastore, 1) := by decide +kernel
theorem dX10_plan_99 : decode cX10_plan 99 = .ok (.aload_n 0, 1) := by decide +kernel
theorem dX10_plan_100 : decode cX10_plan 100 = .ok (.getfield 11, 3) := by decide +kernel
theorem dX10_plan_103 : decode cX10_plan 103 = .ok (.sipush 506, 3) := by decide +kernel
theorem dX10_plan_106 : decode cX10_plan 106 = .ok (.iconst 2, 1) := by decide +kernel
theorem dX10_plan_107 : decode cX10_plan 107 = .ok (.aload_n 0, 1) := by decide +kernel
theorem dX10_plan_108 : decode cX10_plan 108 = .ok (.getfield 11, 3) := by decide +kernel
theorem dX10_plan_111 : decode cX10_plan 111 = .ok (.sipush 505, 3) := by decide +kernel
theorem dX10_plan_114 : decode cX10_plan 114 = .ok (.iaload, 1) := by decide +kernel
theorem dX10_plan_115 : decode cX10_plan 115 = .ok (.imul, 1) := by decide +kernel
theorem dX10_plan_116 : decode cX10_plan 116 = .ok (.iadd, 1) := by decide +kernel
theorem dX10_plan_117 : decode cX10_plan 117 = .ok (.iconst 1, 1) := by decide +kernel
theorem dX10_plan_118 : decode cX10_plan 118 = .ok (.iadd, 1) := by decide +kernel
theorem dX10_plan_119 : decode cX10_plan 119 = .ok (.iload_n 2, 1) := by decide +kernel
theorem dX10_plan_120 : decode cX10_plan 120 = .ok (.iastore, 1) := by decide +kernel
theorem dX10_plan_121 : decode cX10_plan 121 = .ok (.aload_n 0, 1) := by decide +kernel
theorem dX10_plan_122 : decode cX10_plan 122 = .ok (.getfield 11, 3) := by decide +kernel
theorem dX10_plan_125 : decode cX10_plan 125 = .ok (.sipush 505, 3) := by decide +kernel
theorem dX10_plan_128 : decode cX10_plan 128 = .ok (.dup2, 1) := by decide +kernel
theorem dX10_plan_129 : decode cX10_plan 129 = .ok (.iaload, 1) := by decide +kernel
theorem dX10_plan_130 : decode cX10_plan 130 = .ok (.iconst 1, 1) := by decide +kernel
theorem dX10_plan_131 : decode cX10_plan 131 = .ok (.iadd, 1) := by decide +kernel
theorem dX10_plan_132 : decode cX10_plan 132 = .ok (.iastore, 1) := by decide +kernel
theorem dX10_plan_133 : decode cX10_plan 133 = .ok (.aload_n 0, 1) := by decide +kernel
theorem dX10_plan_134 : decode cX10_plan 134 = .ok (.getfield 11, 3) := by decide +kernel
theorem dX10_plan_137 : decode cX10_plan 137 = .ok (.sipush 505, 3) := by decide +kernel
theorem dX10_plan_140 : decode cX10_plan 140 = .ok (.iaload, 1) := by decide +kernel
theorem dX10_plan_141 : decode cX10_plan 141 = .ok (.ireturn, 1) := by decide +kernel
theorem dX10_does_0 : decode cX10_does 0 = .ok (.iload_n 1, 1) := by decide +kernel
theorem dX10_does_1 : decode cX10_does 1 = .ok (.ifCond .ne 33, 3) := by decide +kernel
theorem dX10_does_4 : decode cX10_does 4 = .ok (.aload_n 0, 1) := by decide +kernel
theorem dX10_does_5 : decode cX10_does 5 = .ok (.getfield 11, 3) := by decide +kernel
theorem dX10_does_8 : decode cX10_does 8 = .ok (.sipush 480, 3) := by decide +kernel
theorem dX10_does_11 : decode cX10_does 11 = .ok (.dup2, 1) := by decide +kernel
theorem dX10_does_12 : decode cX10_does 12 = .ok (.iaload, 1) := by decide +kernel
theorem dX10_does_13 : decode cX10_does 13 = .ok (.aload_n 0, 1) := by decide +kernel
theorem dX10_does_14 : decode cX10_does 14 = .ok (.getfield 11, 3) := by decide +kernel
theorem dX10_does_17 : decode cX10_does 17 = .ok (.sipush 480, 3) := by decide +kernel
theorem dX10_does_20 : decode cX10_does 20 = .ok (.iaload, 1) := by decide +kernel
theorem dX10_does_21 : decode cX10_does 21 = .ok (.ifCond .le 7, 3) := by decide +kernel
theorem dX10_does_24 : decode cX10_does 24 = .ok (.iconst 1, 1) := by decide +kernel
theorem dX10_does_25 : decode cX10_does 25 = .ok (.goto 4, 3) := by decide +kernel
theorem dX10_does_28 : decode cX10_does 28 = .ok (.iconst 0, 1) := by decide +kernel
theorem dX10_does_29 : decode cX10_does 29 = .ok (.isub, 1) := by decide +kernel
theorem dX10_does_30 : decode cX10_does 30 = .ok (.iastore, 1) := by decide +kernel
theorem dX10_does_31 : decode cX10_does 31 = .ok (.goto 132, 3) := by decide +kernel
theorem dX10_does_34 : decode cX10_does 34 = .ok (.iload_n 1, 1) := by decide +kernel
theorem dX10_does_35 : decode cX10_does 35 = .ok (.iconst 1, 1) := by decide +kernel
theorem dX10_does_36 : decode cX10_does 36 = .ok (.if_icmp .ne 70, 3) := by decide +kernel
theorem dX10_does_39 : decode cX10_does 39 = .ok (.aload_n 0, 1) := by decide +kernel
theorem dX10_does_40 : decode cX10_does 40 = .ok (.iload_n 2, 1) := by decide +kernel
theorem dX10_does_41 : decode cX10_does 41 = .ok (.invokevirtual 71, 3) := by decide +kernel
theorem dX10_does_44 : decode cX10_does 44 = .ok (.ifCond .eq 119, 3) := by decide +kernel
theorem dX10_does_47 : decode cX10_does 47 = .ok (.aload_n 0, 1) := by decide +kernel
theorem dX10_does_48 : decode cX10_does 48 = .ok (.getfield 11, 3) := by decide +kernel
theorem dX10_does_51 : decode cX10_does 51 = .ok (.sipush 480, 3) := by decide +kernel
theorem dX10_does_54 : decode cX10_does 54 = .ok (.iaload, 1) := by decide +kernel
theorem dX10_does_55 : decode cX10_does 55 = .ok (.bipush 120, 2) := by decide +kernel
theorem dX10_does_57 : decode cX10_does 57 = .ok (.if_icmp .ge 106, 3) := by decide +kernel
theorem dX10_does_60 : decode cX10_does 60 = .ok (.aload_n 0, 1) := by decide +kernel
theorem dX10_does_61 : decode cX10_does 61 = .ok (.aload_n 0, 1) := by decide +kernel
theorem dX10_does_62 : decode cX10_does 62 = .ok (.getfield 11, 3) := by decide +kernel
theorem dX10_does_65 : decode cX10_does 65 = .ok (.iconst 4, 1) := by decide +kernel
theorem dX10_does_66 : decode cX10_does 66 = .ok (.iload_n 2, 1) := by decide +kernel
theorem dX10_does_67 : decode cX10_does 67 = .ok (.imul, 1) := by decide +kernel
theorem dX10_does_68 : decode cX10_does 68 = .ok (.iaload, 1) := by decide +kernel
theorem dX10_does_69 : decode cX10_does 69 = .ok (.aload_n 0, 1) := by decide +kernel
theorem dX10_does_70 : decode cX10_does 70 = .ok (.getfield 11, 3) := by decide +kernel
theorem dX10_does_73 : decode cX10_does 73 = .ok (.iconst 4, 1) := by decide +kernel
theorem dX10_does_74 : decode cX10_does 74 = .ok (.iload_n 2, 1) := by decide +kernel
theorem dX10_does_75 : decode cX10_does 75 = .ok (.imul, 1) := by decide +kernel
theorem dX10_does_76 : decode cX10_does 76 = .ok (.iconst 1, 1) := by decide +kernel
theorem dX10_does_77 : decode cX10_does 77 = .ok (.iadd, 1) := by decide +kernel
theorem dX10_does_78 : decode cX10_does 78 = .ok (.iaload, 1) := by decide +kernel
theorem dX10_does_79 : decode cX10_does 79 = .ok (.aload_n 0, 1) := by decide +kernel
theorem dX10_does_80 : decode cX10_does 80 = .ok (.getfield 11, 3) := by decide +kernel
theorem dX10_does_83 : decode cX10_does 83 = .ok (.iconst 4, 1) := by decide +kernel
theorem dX10_does_84 : decode cX10_does 84 = .ok (.iload_n 2, 1) := by decide +kernel
theorem dX10_does_85 : decode cX10_does 85 = .ok (.imul, 1) := by decide +kernel
theorem dX10_does_86 : decode cX10_does 86 = .ok (.iconst 2, 1) := by decide +kernel
theorem dX10_does_87 : decode cX10_does 87 = .ok (.iadd, 1) := by decide +kernel
theorem dX10_does_88 : decode cX10_does 88 = .ok (.iaload, 1) := by decide +kernel
theorem dX10_does_89 : decode cX10_does 89 = .ok (.aload_n 0, 1) := by decide +kernel
theorem dX10_does_90 : decode cX10_does 90 = .ok (.getfield 11, 3) := by decide +kernel
theorem dX10_does_93 : decode cX10_does 93 = .ok (.iconst 4, 1) := by decide +kernel
theorem dX10_does_94 : decode cX10_does 94 = .ok (.iload_n 2, 1) := by decide +kernel
theorem dX10_does_95 : decode cX10_does 95 = .ok (.imul, 1) := by decide +kernel
theorem dX10_does_96 : decode cX10_does 96 = .ok (.iconst 3, 1) := by decide +kernel
theorem dX10_does_97 : decode cX10_does 97 = .ok (.iadd, 1) := by decide +kernel
theorem dX10_does_98 : decode cX10_does 98 = .ok (.iaload, 1) := by decide +kernel
theorem dX10_does_99 : decode cX10_does 99 = .ok (.invokevirtual 67, 3) := by decide +kernel
theorem dX10_does_102 : decode cX10_does 102 = .ok (.pop, 1) := by decide +kernel
theorem dX10_does_103 : decode cX10_does 103 = .ok (.goto 60, 3) := by decide +kernel
theorem dX10_does_106 : decode cX10_does 106 = .ok (.iload_n 2, 1) := by decide +kernel
theorem dX10_does_107 : decode cX10_does 107 = .ok (.iconst 0, 1) := by decide +kernel
theorem dX10_does_108 : decode cX10_does 108 = .ok (.aload_n 0, 1) := by decide +kernel
theorem dX10_does_109 : decode cX10_does 109 = .ok (.getfield 11, 3) := by decide +kernel
theorem dX10_does_112 : decode cX10_does 112 = .ok (.sipush 481, 3) := by decide +kernel
theorem dX10_does_115 : decode cX10_does 115 = .ok (.iaload, 1) := by decide +kernel
theorem dX10_does_116 : decode cX10_does 116 = .ok (.iconst 1, 1) := by decide +kernel
theorem dX10_does_117 : decode cX10_does 117 = .ok (.isub, 1) := by decide +kernel
theorem dX10_does_118 : decode cX10_does 118 = .ok (.invokestatic 63, 3) := by decide +kernel
theorem dX10_does_121 : decode cX10_does 121 = .ok (.ifCond .eq 42, 3) := by decide +kernel
theorem dX10_does_124 : decode cX10_does 124 = .ok (.aload_n 0, 1) := by decide +kernel
theorem dX10_does_125 : decode cX10_does 125 = .ok (.getfield 11, 3) := by decide +kernel
theorem dX10_does_128 : decode cX10_does 128 = .ok (.sipush 482, 3) := by decide +kernel
theorem dX10_does_131 : decode cX10_does 131 = .ok (.iload_n 2, 1) := by decide +kernel
theorem dX10_does_132 : decode cX10_does 132 = .ok (.iadd, 1) := by decide +kernel
theorem dX10_does_133 : decode cX10_does 133 = .ok (.iaload, 1) := by decide +kernel
theorem dX10_does_134 : decode cX10_does 134 = .ok (.aload_n 0, 1) := by decide +kernel
theorem dX10_does_135 : decode cX10_does 135 = .ok (.getfield 11, 3) := by decide +kernel
theorem dX10_does_138 : decode cX10_does 138 = .ok (.sipush 480, 3) := by decide +kernel
theorem dX10_does_141 : decode cX10_does 141 = .ok (.iaload, 1) := by decide +kernel
theorem dX10_does_142 : decode cX10_does 142 = .ok (.if_icmp .ge 21, 3) := by decide +kernel
theorem dX10_does_145 : decode cX10_does 145 = .ok (.aload_n 0, 1) := by decide +kernel
theorem dX10_does_146 : decode cX10_does 146 = .ok (.getfield 11, 3) := by decide +kernel
theorem dX10_does_149 : decode cX10_does 149 = .ok (.sipush 480, 3) := by decide +kernel
theorem dX10_does_152 : decode cX10_does 152 = .ok (.aload_n 0, 1) := by decide +kernel
theorem dX10_does_153 : decode cX10_does 153 = .ok (.getfield 11, 3) := by decide +kernel
theorem dX10_does_156 : decode cX10_does 156 = .ok (.sipush 482, 3) := by decide +kernel
theorem dX10_does_159 : decode cX10_does 159 = .ok (.iload_n 2, 1) := by decide +kernel
theorem dX10_does_160 : decode cX10_does 160 = .ok (.iadd, 1) := by decide +kernel
theorem dX10_does_161 : decode cX10_does 161 = .ok (.iaload, 1) := by decide +kernel
theorem dX10_does_162 : decode cX10_does 162 = .ok (.iastore, 1) := by decide +kernel
theorem dX10_does_163 : decode cX10_does 163 = .ok (.return_, 1) := by decide +kernel
theorem dX10_ends_0 : decode cX10_ends 0 = .ok (.aload_n 0, 1) := by decide +kernel
theorem dX10_ends_1 : decode cX10_ends 1 = .ok (.iload_n 1, 1) := by decide +kernel
theorem dX10_ends_2 : decode cX10_ends 2 = .ok (.invokevirtual 163, 3) := by decide +kernel
theorem dX10_ends_5 : decode cX10_ends 5 = .ok (.ifCond .eq 12, 3) := by decide +kernel
theorem dX10_ends_8 : decode cX10_ends 8 = .ok (.iload_n 2, 1) := by decide +kernel
theorem dX10_ends_9 : decode cX10_ends 9 = .ok (.iconst 0, 1) := by decide +kernel
theorem dX10_ends_10 : decode cX10_ends 10 = .ok (.iconst 1, 1) := by decide +kernel
theorem dX10_ends_11 : decode cX10_ends 11 = .ok (.invokestatic 63, 3) := by decide +kernel
theorem dX10_ends_14 : decode cX10_ends 14 = .ok (.ifCond .ne 5, 3) := by decide +kernel
theorem dX10_ends_17 : decode cX10_ends 17 = .ok (.iconst (-1), 1) := by decide +kernel
theorem dX10_ends_18 : decode cX10_ends 18 = .ok (.ireturn, 1) := by decide +kernel
theorem dX10_ends_19 : decode cX10_ends 19 = .ok (.aload_n 0, 1) := by decide +kernel
theorem dX10_ends_20 : decode cX10_ends 20 = .ok (.getfield 11, 3) := by decide +kernel
theorem dX10_ends_23 : decode cX10_ends 23 = .ok (.aload_n 0, 1) := by decide +kernel
theorem dX10_ends_24 : decode cX10_ends 24 = .ok (.getfield 15, 3) := by decide +kernel
theorem dX10_ends_27 : decode cX10_ends 27 = .ok (.invokestatic 188, 3) := by decide +kernel
theorem dX10_ends_30 : decode cX10_ends 30 = .ok (.iconst 0, 1) := by decide +kernel
theorem dX10_ends_31 : decode cX10_ends 31 = .ok (.istore_n 3, 1) := by decide +kernel
theorem dX10_ends_32 : decode cX10_ends 32 = .ok (.iload_n 3, 1) := by decide +kernel
theorem dX10_ends_33 : decode cX10_ends 33 = .ok (.aload_n 0, 1) := by decide +kernel
theorem dX10_ends_34 : decode cX10_ends 34 = .ok (.getfield 15, 3) := by decide +kernel
theorem dX10_ends_37 : decode cX10_ends 37 = .ok (.sipush 505, 3) := by decide +kernel
theorem dX10_ends_40 : decode cX10_ends 40 = .ok (.iaload, 1) := by decide +kernel
theorem dX10_ends_41 : decode cX10_ends 41 = .ok (.if_icmp .ge 39, 3) := by decide +kernel
theorem dX10_ends_44 : decode cX10_ends 44 = .ok (.aload_n 0, 1) := by decide +kernel
theorem dX10_ends_45 : decode cX10_ends 45 = .ok (.aload_n 0, 1) := by decide +kernel
theorem dX10_ends_46 : decode cX10_ends 46 = .ok (.getfield 15, 3) := by decide +kernel
theorem dX10_ends_49 : decode cX10_ends 49 = .ok (.sipush 506, 3) := by decide +kernel
theorem dX10_ends_52 : decode cX10_ends 52 = .ok (.iconst 2, 1) := by decide +kernel
theorem dX10_ends_53 : decode cX10_ends 53 = .ok (.iload_n 3, 1) := by decide +kernel
theorem dX10_ends_54 : decode cX10_ends 54 = .ok (.imul, 1) := by decide +kernel
theorem dX10_ends_55 : decode cX10_ends 55 = .ok (.iadd, 1) := by decide +kernel
theorem dX10_ends_56 : decode cX10_ends 56 = .ok (.iaload, 1) := by decide +kernel
theorem dX10_ends_57 : decode cX10_ends 57 = .ok (.aload_n 0, 1) := by decide +kernel
theorem dX10_ends_58 : decode cX10_ends 58 = .ok (.getfield 15, 3) := by decide +kernel
theorem dX10_ends_61 : decode cX10_ends 61 = .ok (.sipush 506, 3) := by decide +kernel
theorem dX10_ends_64 : decode cX10_ends 64 = .ok (.iconst 2, 1) := by decide +kernel
theorem dX10_ends_65 : decode cX10_ends 65 = .ok (.iload_n 3, 1) := by decide +kernel
theorem dX10_ends_66 : decode cX10_ends 66 = .ok (.imul, 1) := by decide +kernel
theorem dX10_ends_67 : decode cX10_ends 67 = .ok (.iadd, 1) := by decide +kernel
theorem dX10_ends_68 : decode cX10_ends 68 = .ok (.iconst 1, 1) := by decide +kernel
theorem dX10_ends_69 : decode cX10_ends 69 = .ok (.iadd, 1) := by decide +kernel
theorem dX10_ends_70 : decode cX10_ends 70 = .ok (.iaload, 1) := by decide +kernel
theorem dX10_ends_71 : decode cX10_ends 71 = .ok (.invokevirtual 192, 3) := by decide +kernel
theorem dX10_ends_74 : decode cX10_ends 74 = .ok (.iinc 3 1, 3) := by decide +kernel
theorem dX10_ends_77 : decode cX10_ends 77 = .ok (.goto (-45), 3) := by decide +kernel
theorem dX10_ends_80 : decode cX10_ends 80 = .ok (.iload_n 2, 1) := by decide +kernel
theorem dX10_ends_81 : decode cX10_ends 81 = .ok (.ifCond .ne 16, 3) := by decide +kernel
theorem dX10_ends_84 : decode cX10_ends 84 = .ok (.aload_n 0, 1) := by decide +kernel
theorem dX10_ends_85 : decode cX10_ends 85 = .ok (.aload_n 0, 1) := by decide +kernel
theorem dX10_ends_86 : decode cX10_ends 86 = .ok (.getfield 21, 3) := by decide +kernel
theorem dX10_ends_89 : decode cX10_ends 89 = .ok (.iload_n 1, 1) := by decide +kernel
theorem dX10_ends_90 : decode cX10_ends 90 = .ok (.iaload, 1) := by decide +kernel
theorem dX10_ends_91 : decode cX10_ends 91 = .ok (.invokevirtual 166, 3) := by decide +kernel
theorem dX10_ends_94 : decode cX10_ends 94 = .ok (.goto 13, 3) := by decide +kernel
theorem dX10_ends_97 : decode cX10_ends 97 = .ok (.aload_n 0, 1) := by decide +kernel
theorem dX10_ends_98 : decode cX10_ends 98 = .ok (.aload_n 0, 1) := by decide +kernel
theorem dX10_ends_99 : decode cX10_ends 99 = .ok (.getfield 21, 3) := by decide +kernel
theorem dX10_ends_102 : decode cX10_ends 102 = .ok (.iload_n 1, 1) := by decide +kernel
theorem dX10_ends_103 : decode cX10_ends 103 = .ok (.iaload, 1) := by decide +kernel
theorem dX10_ends_104 : decode cX10_ends 104 = .ok (.invokevirtual 153, 3) := by decide +kernel
theorem dX10_ends_107 : decode cX10_ends 107 = .ok (.istore_n 3, 1) := by decide +kernel
theorem dX10_ends_108 : decode cX10_ends 108 = .ok (.aload_n 0, 1) := by decide +kernel
theorem dX10_ends_109 : decode cX10_ends 109 = .ok (.getfield 15, 3) := by decide +kernel
theorem dX10_ends_112 : decode cX10_ends 112 = .ok (.aload_n 0, 1) := by decide +kernel
theorem dX10_ends_113 : decode cX10_ends 113 = .ok (.getfield 11, 3) := by decide +kernel
theorem dX10_ends_116 : decode cX10_ends 116 = .ok (.invokestatic 188, 3) := by decide +kernel
theorem dX10_ends_119 : decode cX10_ends 119 = .ok (.iload_n 3, 1) := by decide +kernel
theorem dX10_ends_120 : decode cX10_ends 120 = .ok (.ireturn, 1) := by decide +kernel
theorem dX10_book_0 : decode cX10_book 0 = .ok (.iload_n 1, 1) := by decide +kernel
theorem dX10_book_1 : decode cX10_book 1 = .ok (.iconst (-1), 1) := by decide +kernel
theorem dX10_book_2 : decode cX10_book 2 = .ok (.if_icmp .ne 14, 3) := by decide +kernel
theorem dX10_book_5 : decode cX10_book 5 = .ok (.aload_n 0, 1) := by decide +kernel
theorem dX10_book_6 : decode cX10_book 6 = .ok (.getfield 11, 3) := by decide +kernel
theorem dX10_book_9 : decode cX10_book 9 = .ok (.sipush 526, 3) := by decide +kernel
theorem dX10_book_12 : decode cX10_book 12 = .ok (.iconst 0, 1) := by decide +kernel
theorem dX10_book_13 : decode cX10_book 13 = .ok (.iastore, 1) := by decide +kernel
theorem dX10_book_14 : decode cX10_book 14 = .ok (.iconst 0, 1) := by decide +kernel
theorem dX10_book_15 : decode cX10_book 15 = .ok (.ireturn, 1) := by decide +kernel
theorem dX10_book_16 : decode cX10_book 16 = .ok (.aload_n 0, 1) := by decide +kernel
theorem dX10_book_17 : decode cX10_book 17 = .ok (.iload_n 1, 1) := by decide +kernel
theorem dX10_book_18 : decode cX10_book 18 = .ok (.invokevirtual 163, 3) := by decide +kernel
theorem dX10_book_21 : decode cX10_book 21 = .ok (.ifCond .ne 5, 3) := by decide +kernel
theorem dX10_book_24 : decode cX10_book 24 = .ok (.iconst (-1), 1) := by decide +kernel
theorem dX10_book_25 : decode cX10_book 25 = .ok (.ireturn, 1) := by decide +kernel
theorem dX10_book_26 : decode cX10_book 26 = .ok (.iload_n 2, 1) := by decide +kernel
theorem dX10_book_27 : decode cX10_book 27 = .ok (.iconst 0, 1) := by decide +kernel
theorem dX10_book_28 : decode cX10_book 28 = .ok (.bipush 120, 2) := by decide +kernel
theorem dX10_book_30 : decode cX10_book 30 = .ok (.invokestatic 63, 3) := by decide +kernel
theorem dX10_book_33 : decode cX10_book 33 = .ok (.ifCond .ne 6, 3) := by decide +kernel
theorem dX10_book_36 : decode cX10_book 36 = .ok (.bipush (-2), 2) := by decide +kernel
theorem dX10_book_38 : decode cX10_book 38 = .ok (.ireturn, 1) := by decide +kernel
theorem dX10_book_39 : decode cX10_book 39 = .ok (.aload_n 0, 1) := by decide +kernel
theorem dX10_book_40 : decode cX10_book 40 = .ok (.getfield 11, 3) := by decide +kernel
theorem dX10_book_43 : decode cX10_book 43 = .ok (.sipush 526, 3) := by decide +kernel
theorem dX10_book_46 : decode cX10_book 46 = .ok (.iaload, 1) := by decide +kernel
theorem dX10_book_47 : decode cX10_book 47 = .ok (.bipush 8, 2) := by decide +kernel
theorem dX10_book_49 : decode cX10_book 49 = .ok (.if_icmp .ne 6, 3) := by decide +kernel
theorem dX10_book_52 : decode cX10_book 52 = .ok (.bipush (-4), 2) := by decide +kernel
theorem dX10_book_54 : decode cX10_book 54 = .ok (.ireturn, 1) := by decide +kernel
theorem dX10_book_55 : decode cX10_book 55 = .ok (.aload_n 0, 1) := by decide +kernel
theorem dX10_book_56 : decode cX10_book 56 = .ok (.getfield 11, 3) := by decide +kernel
theorem dX10_book_59 : decode cX10_book 59 = .ok (.sipush 527, 3) := by decide +kernel
theorem dX10_book_62 : decode cX10_book 62 = .ok (.iconst 2, 1) := by decide +kernel
theorem dX10_book_63 : decode cX10_book 63 = .ok (.aload_n 0, 1) := by decide +kernel
theorem dX10_book_64 : decode cX10_book 64 = .ok (.getfield 11, 3) := by decide +kernel
theorem dX10_book_67 : decode cX10_book 67 = .ok (.sipush 526, 3) := by decide +kernel
theorem dX10_book_70 : decode cX10_book 70 = .ok (.iaload, 1) := by decide +kernel
theorem dX10_book_71 : decode cX10_book 71 = .ok (.imul, 1) := by decide +kernel
theorem dX10_book_72 : decode cX10_book 72 = .ok (.iadd, 1) := by decide +kernel
theorem dX10_book_73 : decode cX10_book 73 = .ok (.iload_n 1, 1) := by decide +kernel
theorem dX10_book_74 : decode cX10_book 74 = .ok (.iastore, 1) := by decide +kernel
theorem dX10_book_75 : decode cX10_book 75 = .ok (.aload_n 0, 1) := by decide +kernel
theorem dX10_book_76 : decode cX10_book 76 = .ok (.getfield 11, 3) := by decide +kernel
theorem dX10_book_79 : decode cX10_book 79 = .ok (.sipush 527, 3) := by decide +kernel
theorem dX10_book_82 : decode cX10_book 82 = .ok (.iconst 2, 1) := by decide +kernel
theorem dX10_book_83 : decode cX10_book 83 = .ok (.aload_n 0, 1) := by decide +kernel
theorem dX10_book_84 : decode cX10_book 84 = .ok (.getfield 11, 3) := by decide +kernel
theorem dX10_book_87 : decode cX10_book 87 = .ok (.sipush 526, 3) := by decide +kernel
theorem dX10_book_90 : decode cX10_book 90 = .ok (.iaload, 1) := by decide +kernel
theorem dX10_book_91 : decode cX10_book 91 = .ok (.imul, 1) := by decide +kernel
theorem dX10_book_92 : decode cX10_book 92 = .ok (.iadd, 1) := by decide +kernel
theorem dX10_book_93 : decode cX10_book 93 = .ok (.iconst 1, 1) := by decide +kernel
theorem dX10_book_94 : decode cX10_book 94 = .ok (.iadd, 1) := by decide +kernel
theorem dX10_book_95 : decode cX10_book 95 = .ok (.iload_n 2, 1) := by decide +kernel
theorem dX10_book_96 : decode cX10_book 96 = .ok (.iastore, 1) := by decide +kernel
theorem dX10_book_97 : decode cX10_book 97 = .ok (.aload_n 0, 1) := by decide +kernel
theorem dX10_book_98 : decode cX10_book 98 = .ok (.getfield 11, 3) := by decide +kernel
theorem dX10_book_101 : decode cX10_book 101 = .ok (.sipush 526, 3) := by decide +kernel
theorem dX10_book_104 : decode cX10_book 104 = .ok (.dup2, 1) := by decide +kernel
theorem dX10_book_105 : decode cX10_book 105 = .ok (.iaload, 1) := by decide +kernel
theorem dX10_book_106 : decode cX10_book 106 = .ok (.iconst 1, 1) := by decide +kernel
theorem dX10_book_107 : decode cX10_book 107 = .ok (.iadd, 1) := by decide +kernel
theorem dX10_book_108 : decode cX10_book 108 = .ok (.iastore, 1) := by decide +kernel
theorem dX10_book_109 : decode cX10_book 109 = .ok (.aload_n 0, 1) := by decide +kernel
theorem dX10_book_110 : decode cX10_book 110 = .ok (.getfield 11, 3) := by decide +kernel
theorem dX10_book_113 : decode cX10_book 113 = .ok (.sipush 526, 3) := by decide +kernel
theorem dX10_book_116 : decode cX10_book 116 = .ok (.iaload, 1) := by decide +kernel
theorem dX10_book_117 : decode cX10_book 117 = .ok (.ireturn, 1) := by decide +kernel
theorem dX10_looked_0 : decode cX10_looked 0 = .ok (.iconst 0, 1) := by decide +kernel
theorem dX10_looked_1 : decode cX10_looked 1 = .ok (.istore_n 1, 1) := by decide +kernel
theorem dX10_looked_2 : decode cX10_looked 2 = .ok (.iload_n 1, 1) := by decide +kernel
theorem dX10_looked_3 : decode cX10_looked 3 = .ok (.aload_n 0, 1) := by decide +kernel
theorem dX10_looked_4 : decode cX10_looked 4 = .ok (.getfield 11, 3) := by decide +kernel
theorem dX10_looked_7 : decode cX10_looked 7 = .ok (.sipush 526, 3) := by decide +kernel
theorem dX10_looked_10 : decode cX10_looked 10 = .ok (.iaload, 1) := by decide +kernel
theorem dX10_looked_11 : decode cX10_looked 11 = .ok (.if_icmp .ge 49, 3) := by decide +kernel
theorem dX10_looked_14 : decode cX10_looked 14 = .ok (.aload_n 0, 1) := by decide +kernel
theorem dX10_looked_15 : decode cX10_looked 15 = .ok (.aload_n 0, 1) := by decide +kernel
theorem dX10_looked_16 : decode cX10_looked 16 = .ok (.getfield 21, 3) := by decide +kernel
theorem dX10_looked_19 : decode cX10_looked 19 = .ok (.aload_n 0, 1) := by decide +kernel
theorem dX10_looked_20 : decode cX10_looked 20 = .ok (.getfield 11, 3) := by decide +kernel
theorem dX10_looked_23 : decode cX10_looked 23 = .ok (.sipush 527, 3) := by decide +kernel
theorem dX10_looked_26 : decode cX10_looked 26 = .ok (.iconst 2, 1) := by decide +kernel
theorem dX10_looked_27 : decode cX10_looked 27 = .ok (.iload_n 1, 1) := by decide +kernel
theorem dX10_looked_28 : decode cX10_looked 28 = .ok (.imul, 1) := by decide +kernel
theorem dX10_looked_29 : decode cX10_looked 29 = .ok (.iadd, 1) := by decide +kernel
theorem dX10_looked_30 : decode cX10_looked 30 = .ok (.iaload, 1) := by decide +kernel
theorem dX10_looked_31 : decode cX10_looked 31 = .ok (.iaload, 1) := by decide +kernel
theorem dX10_looked_32 : decode cX10_looked 32 = .ok (.invokevirtual 166, 3) := by decide +kernel
theorem dX10_looked_35 : decode cX10_looked 35 = .ok (.aload_n 0, 1) := by decide +kernel
theorem dX10_looked_36 : decode cX10_looked 36 = .ok (.getfield 11, 3) := by decide +kernel
theorem dX10_looked_39 : decode cX10_looked 39 = .ok (.sipush 527, 3) := by decide +kernel
theorem dX10_looked_42 : decode cX10_looked 42 = .ok (.iconst 2, 1) := by decide +kernel
theorem dX10_looked_43 : decode cX10_looked 43 = .ok (.iload_n 1, 1) := by decide +kernel
theorem dX10_looked_44 : decode cX10_looked 44 = .ok (.imul, 1) := by decide +kernel
theorem dX10_looked_45 : decode cX10_looked 45 = .ok (.iadd, 1) := by decide +kernel
theorem dX10_looked_46 : decode cX10_looked 46 = .ok (.iconst 1, 1) := by decide +kernel
theorem dX10_looked_47 : decode cX10_looked 47 = .ok (.iadd, 1) := by decide +kernel
theorem dX10_looked_48 : decode cX10_looked 48 = .ok (.iaload, 1) := by decide +kernel
theorem dX10_looked_49 : decode cX10_looked 49 = .ok (.if_icmp .eq 5, 3) := by decide +kernel
theorem dX10_looked_52 : decode cX10_looked 52 = .ok (.iload_n 1, 1) := by decide +kernel
theorem dX10_looked_53 : decode cX10_looked 53 = .ok (.ireturn, 1) := by decide +kernel
theorem dX10_looked_54 : decode cX10_looked 54 = .ok (.iinc 1 1, 3) := by decide +kernel
theorem dX10_looked_57 : decode cX10_looked 57 = .ok (.goto (-55), 3) := by decide +kernel
theorem dX10_looked_60 : decode cX10_looked 60 = .ok (.bipush (-5), 2) := by decide +kernel
theorem dX10_looked_62 : decode cX10_looked 62 = .ok (.ireturn, 1) := by decide +kernel
theorem dX10_isTape_0 : decode cX10_isTape 0 = .ok (.iload_n 0, 1) := by decide +kernel
theorem dX10_isTape_1 : decode cX10_isTape 1 = .ok (.iconst 0, 1) := by decide +kernel
theorem dX10_isTape_2 : decode cX10_isTape 2 = .ok (.iconst 5, 1) := by decide +kernel
theorem dX10_isTape_3 : decode cX10_isTape 3 = .ok (.invokestatic 63, 3) := by decide +kernel
theorem dX10_isTape_6 : decode cX10_isTape 6 = .ok (.ireturn, 1) := by decide +kernel
theorem dX10_judge_0 : decode cX10_judge 0 = .ok (.aload_n 0, 1) := by decide +kernel
theorem dX10_judge_1 : decode cX10_judge 1 = .ok (.iload_n 1, 1) := by decide +kernel
theorem dX10_judge_2 : decode cX10_judge 2 = .ok (.invokevirtual 163, 3) := by decide +kernel
theorem dX10_judge_5 : decode cX10_judge 5 = .ok (.ifCond .eq 10, 3) := by decide +kernel
theorem dX10_judge_8 : decode cX10_judge 8 = .ok (.iload_n 2, 1) := by decide +kernel
theorem dX10_judge_9 : decode cX10_judge 9 = .ok (.invokestatic 195, 3) := by decide +kernel
theorem dX10_judge_12 : decode cX10_judge 12 = .ok (.ifCond .ne 5, 3) := by decide +kernel
theorem dX10_judge_15 : decode cX10_judge 15 = .ok (.iconst (-1), 1) := by decide +kernel
theorem dX10_judge_16 : decode cX10_judge 16 = .ok (.ireturn, 1) := by decide +kernel
theorem dX10_judge_17 : decode cX10_judge 17 = .ok (.aload_n 0, 1) := by decide +kernel
theorem dX10_judge_18 : decode cX10_judge 18 = .ok (.getfield 48, 3) := by decide +kernel
theorem dX10_judge_21 : decode cX10_judge 21 = .ok (.iload_n 2, 1) := by decide +kernel
theorem dX10_judge_22 : decode cX10_judge 22 = .ok (.iaload, 1) := by decide +kernel
theorem dX10_judge_23 : decode cX10_judge 23 = .ok (.ifCond .lt 16, 3) := by decide +kernel
theorem dX10_judge_26 : decode cX10_judge 26 = .ok (.aload_n 0, 1) := by decide +kernel
theorem dX10_judge_27 : decode cX10_judge 27 = .ok (.getfield 48, 3) := by decide +kernel
theorem dX10_judge_30 : decode cX10_judge 30 = .ok (.iload_n 2, 1) := by decide +kernel
theorem dX10_judge_31 : decode cX10_judge 31 = .ok (.iaload, 1) := by decide +kernel
theorem dX10_judge_32 : decode cX10_judge 32 = .ok (.iconst 4, 1) := by decide +kernel
theorem dX10_judge_33 : decode cX10_judge 33 = .ok (.if_icmp .eq 6, 3) := by decide +kernel
theorem dX10_judge_36 : decode cX10_judge 36 = .ok (.bipush (-12), 2) := by decide +kernel
theorem dX10_judge_38 : decode cX10_judge 38 = .ok (.ireturn, 1) := by decide +kernel
theorem dX10_judge_39 : decode cX10_judge 39 = .ok (.iconst 0, 1) := by decide +kernel
theorem dX10_judge_40 : decode cX10_judge 40 = .ok (.istore 4, 2) := by decide +kernel
theorem dX10_judge_42 : decode cX10_judge 42 = .ok (.iload 4, 2) := by decide +kernel
theorem dX10_judge_44 : decode cX10_judge 44 = .ok (.aload_n 0, 1) := by decide +kernel
theorem dX10_judge_45 : decode cX10_judge 45 = .ok (.getfield 11, 3) := by decide +kernel
theorem dX10_judge_48 : decode cX10_judge 48 = .ok (.sipush 480, 3) := by decide +kernel
theorem dX10_judge_51 : decode cX10_judge 51 = .ok (.iaload, 1) := by decide +kernel
theorem dX10_judge_52 : decode cX10_judge 52 = .ok (.if_icmp .ge 81, 3) := by decide +kernel
theorem dX10_judge_55 : decode cX10_judge 55 = .ok (.aload_n 0, 1) := by decide +kernel
theorem dX10_judge_56 : decode cX10_judge 56 = .ok (.getfield 48, 3) := by decide +kernel
theorem dX10_judge_59 : decode cX10_judge 59 = .ok (.iload_n 2, 1) := by decide +kernel
theorem dX10_judge_60 : decode cX10_judge 60 = .ok (.iaload, 1) := by decide +kernel
theorem dX10_judge_61 : decode cX10_judge 61 = .ok (.ifCond .lt 20, 3) := by decide +kernel
theorem dX10_judge_64 : decode cX10_judge 64 = .ok (.iload_n 3, 1) := by decide +kernel
theorem dX10_judge_65 : decode cX10_judge 65 = .ok (.ifCond .lt 16, 3) := by decide +kernel
theorem dX10_judge_68 : decode cX10_judge 68 = .ok (.iload_n 3, 1) := by decide +kernel
theorem dX10_judge_69 : decode cX10_judge 69 = .ok (.aload_n 0, 1) := by decide +kernel
theorem dX10_judge_70 : decode cX10_judge 70 = .ok (.getfield 51, 3) := by decide +kernel
theorem dX10_judge_73 : decode cX10_judge 73 = .ok (.iload_n 2, 1) := by decide +kernel
theorem dX10_judge_74 : decode cX10_judge 74 = .ok (.iaload, 1) := by decide +kernel
theorem dX10_judge_75 : decode cX10_judge 75 = .ok (.iload 4, 2) := by decide +kernel
theorem dX10_judge_77 : decode cX10_judge 77 = .ok (.isub, 1) := by decide +kernel
theorem dX10_judge_78 : decode cX10_judge 78 = .ok (.if_icmp .lt 10, 3) := by decide +kernel
theorem dX10_judge_81 : decode cX10_judge 81 = .ok (.sipush 1000, 3) := by decide +kernel
theorem dX10_judge_84 : decode cX10_judge 84 = .ok (.iload 4, 2) := by decide +kernel
theorem dX10_judge_86 : decode cX10_judge 86 = .ok (.iadd, 1) := by decide +kernel
theorem dX10_judge_87 : decode cX10_judge 87 = .ok (.ireturn, 1) := by decide +kernel
theorem dX10_judge_88 : decode cX10_judge 88 = .ok (.aload_n 0, 1) := by decide +kernel
theorem dX10_judge_89 : decode cX10_judge 89 = .ok (.getfield 56, 3) := by decide +kernel
theorem dX10_judge_92 : decode cX10_judge 92 = .ok (.iload_n 2, 1) := by decide +kernel
theorem dX10_judge_93 : decode cX10_judge 93 = .ok (.aaload, 1) := by decide +kernel
theorem dX10_judge_94 : decode cX10_judge 94 = .ok (.iload_n 3, 1) := by decide +kernel
theorem dX10_judge_95 : decode cX10_judge 95 = .ok (.iload 4, 2) := by decide +kernel
theorem dX10_judge_97 : decode cX10_judge 97 = .ok (.iadd, 1) := by decide +kernel
theorem dX10_judge_98 : decode cX10_judge 98 = .ok (.laload, 1) := by decide +kernel
theorem dX10_judge_99 : decode cX10_judge 99 = .ok (.lconst 1, 1) := by decide +kernel
theorem dX10_judge_100 : decode cX10_judge 100 = .ok (.lcmp, 1) := by decide +kernel
theorem dX10_judge_101 : decode cX10_judge 101 = .ok (.ifCond .ne 7, 3) := by decide +kernel
theorem dX10_judge_104 : decode cX10_judge 104 = .ok (.iconst 1, 1) := by decide +kernel
theorem dX10_judge_105 : decode cX10_judge 105 = .ok (.goto 4, 3) := by decide +kernel
theorem dX10_judge_108 : decode cX10_judge 108 = .ok (.iconst 0, 1) := by decide +kernel
theorem dX10_judge_109 : decode cX10_judge 109 = .ok (.aload_n 0, 1) := by decide +kernel
theorem dX10_judge_110 : decode cX10_judge 110 = .ok (.aload_n 0, 1) := by decide +kernel
theorem dX10_judge_111 : decode cX10_judge 111 = .ok (.getfield 21, 3) := by decide +kernel
theorem dX10_judge_114 : decode cX10_judge 114 = .ok (.iload_n 1, 1) := by decide +kernel
theorem dX10_judge_115 : decode cX10_judge 115 = .ok (.iaload, 1) := by decide +kernel
theorem dX10_judge_116 : decode cX10_judge 116 = .ok (.iload 4, 2) := by decide +kernel
theorem dX10_judge_118 : decode cX10_judge 118 = .ok (.invokevirtual 146, 3) := by decide +kernel
theorem dX10_judge_121 : decode cX10_judge 121 = .ok (.if_icmp .eq 6, 3) := by decide +kernel
theorem dX10_judge_124 : decode cX10_judge 124 = .ok (.iload 4, 2) := by decide +kernel
theorem dX10_judge_126 : decode cX10_judge 126 = .ok (.ireturn, 1) := by decide +kernel
theorem dX10_judge_127 : decode cX10_judge 127 = .ok (.iinc 4 1, 3) := by decide +kernel
theorem dX10_judge_130 : decode cX10_judge 130 = .ok (.goto (-88), 3) := by decide +kernel
theorem dX10_judge_133 : decode cX10_judge 133 = .ok (.bipush (-5), 2) := by decide +kernel
theorem dX10_judge_135 : decode cX10_judge 135 = .ok (.ireturn, 1) := by decide +kernel
theorem dX10_image_0 : decode cX10_image 0 = .ok (.aload_n 0, 1) := by decide +kernel
theorem dX10_image_1 : decode cX10_image 1 = .ok (.getfield 11, 3) := by decide +kernel
theorem dX10_image_4 : decode cX10_image 4 = .ok (.aload_n 0, 1) := by decide +kernel
theorem dX10_image_5 : decode cX10_image 5 = .ok (.getfield 18, 3) := by decide +kernel
theorem dX10_image_8 : decode cX10_image 8 = .ok (.invokestatic 188, 3) := by decide +kernel
theorem dX10_image_11 : decode cX10_image 11 = .ok (.aload_n 0, 1) := by decide +kernel
theorem dX10_image_12 : decode cX10_image 12 = .ok (.iconst 1, 1) := by decide +kernel
theorem dX10_image_13 : decode cX10_image 13 = .ok (.putfield 198, 3) := by decide +kernel
theorem dX10_image_16 : decode cX10_image 16 = .ok (.aload_n 0, 1) := by decide +kernel
theorem dX10_image_17 : decode cX10_image 17 = .ok (.getfield 11, 3) := by decide +kernel
theorem dX10_image_20 : decode cX10_image 20 = .ok (.sipush 480, 3) := by decide +kernel
theorem dX10_image_23 : decode cX10_image 23 = .ok (.iaload, 1) := by decide +kernel
theorem dX10_image_24 : decode cX10_image 24 = .ok (.ireturn, 1) := by decide +kernel
theorem dX10_undo_0 : decode cX10_undo 0 = .ok (.aload_n 0, 1) := by decide +kernel
theorem dX10_undo_1 : decode cX10_undo 1 = .ok (.getfield 198, 3) := by decide +kernel
theorem dX10_undo_4 : decode cX10_undo 4 = .ok (.ifCond .ne 6, 3) := by decide +kernel
theorem dX10_undo_7 : decode cX10_undo 7 = .ok (.bipush (-3), 2) := by decide +kernel
theorem dX10_undo_9 : decode cX10_undo 9 = .ok (.ireturn, 1) := by decide +kernel
theorem dX10_undo_10 : decode cX10_undo 10 = .ok (.aload_n 0, 1) := by decide +kernel
theorem dX10_undo_11 : decode cX10_undo 11 = .ok (.getfield 18, 3) := by decide +kernel
theorem dX10_undo_14 : decode cX10_undo 14 = .ok (.aload_n 0, 1) := by decide +kernel
theorem dX10_undo_15 : decode cX10_undo 15 = .ok (.getfield 11, 3) := by decide +kernel
theorem dX10_undo_18 : decode cX10_undo 18 = .ok (.invokestatic 188, 3) := by decide +kernel
theorem dX10_undo_21 : decode cX10_undo 21 = .ok (.aload_n 0, 1) := by decide +kernel
theorem dX10_undo_22 : decode cX10_undo 22 = .ok (.getfield 11, 3) := by decide +kernel
theorem dX10_undo_25 : decode cX10_undo 25 = .ok (.sipush 480, 3) := by decide +kernel
theorem dX10_undo_28 : decode cX10_undo 28 = .ok (.iaload, 1) := by decide +kernel
theorem dX10_undo_29 : decode cX10_undo 29 = .ok (.ireturn, 1) := by decide +kernel
theorem dX10_taken_0 : decode cX10_taken 0 = .ok (.iload_n 2, 1) := by decide +kernel
theorem dX10_taken_1 : decode cX10_taken 1 = .ok (.iconst 0, 1) := by decide +kernel
theorem dX10_taken_2 : decode cX10_taken 2 = .ok (.bipush 6, 2) := by decide +kernel
theorem dX10_taken_4 : decode cX10_taken 4 = .ok (.invokestatic 63, 3) := by decide +kernel
theorem dX10_taken_7 : decode cX10_taken 7 = .ok (.ifCond .ne 6, 3) := by decide +kernel
theorem dX10_taken_10 : decode cX10_taken 10 = .ok (.bipush (-2), 2) := by decide +kernel
theorem dX10_taken_12 : decode cX10_taken 12 = .ok (.ireturn, 1) := by decide +kernel
theorem dX10_taken_13 : decode cX10_taken 13 = .ok (.aload_n 0, 1) := by decide +kernel
theorem dX10_taken_14 : decode cX10_taken 14 = .ok (.iload_n 1, 1) := by decide +kernel
theorem dX10_taken_15 : decode cX10_taken 15 = .ok (.invokevirtual 163, 3) := by decide +kernel
theorem dX10_taken_18 : decode cX10_taken 18 = .ok (.ifCond .ne 6, 3) := by decide +kernel
theorem dX10_taken_21 : decode cX10_taken 21 = .ok (.bipush (-11), 2) := by decide +kernel
theorem dX10_taken_23 : decode cX10_taken 23 = .ok (.ireturn, 1) := by decide +kernel
theorem dX10_taken_24 : decode cX10_taken 24 = .ok (.aload_n 0, 1) := by decide +kernel
theorem dX10_taken_25 : decode cX10_taken 25 = .ok (.getfield 24, 3) := by decide +kernel
theorem dX10_taken_28 : decode cX10_taken 28 = .ok (.aload_n 0, 1) := by decide +kernel
theorem dX10_taken_29 : decode cX10_taken 29 = .ok (.getfield 21, 3) := by decide +kernel
theorem dX10_taken_32 : decode cX10_taken 32 = .ok (.iload_n 1, 1) := by decide +kernel
theorem dX10_taken_33 : decode cX10_taken 33 = .ok (.iaload, 1) := by decide +kernel
theorem dX10_taken_34 : decode cX10_taken 34 = .ok (.iaload, 1) := by decide +kernel
theorem dX10_taken_35 : decode cX10_taken 35 = .ok (.iload_n 2, 1) := by decide +kernel
theorem dX10_taken_36 : decode cX10_taken 36 = .ok (.if_icmp .ne 7, 3) := by decide +kernel
theorem dX10_taken_39 : decode cX10_taken 39 = .ok (.iload_n 2, 1) := by decide +kernel
theorem dX10_taken_40 : decode cX10_taken 40 = .ok (.goto 5, 3) := by decide +kernel
theorem dX10_taken_43 : decode cX10_taken 43 = .ok (.bipush (-12), 2) := by decide +kernel
theorem dX10_taken_45 : decode cX10_taken 45 = .ok (.ireturn, 1) := by decide +kernel
theorem dX10_count_0 : decode cX10_count 0 = .ok (.iload_n 1, 1) := by decide +kernel
theorem dX10_count_1 : decode cX10_count 1 = .ok (.tableswitch 98 0 6 #[43, 52, 61, 66, 75, 84, 93], 43) := by decide +kernel
theorem dX10_count_44 : decode cX10_count 44 = .ok (.aload_n 0, 1) := by decide +kernel
theorem dX10_count_45 : decode cX10_count 45 = .ok (.getfield 11, 3) := by decide +kernel
theorem dX10_count_48 : decode cX10_count 48 = .ok (.sipush 480, 3) := by decide +kernel
theorem dX10_count_51 : decode cX10_count 51 = .ok (.iaload, 1) := by decide +kernel
theorem dX10_count_52 : decode cX10_count 52 = .ok (.ireturn, 1) := by decide +kernel
theorem dX10_count_53 : decode cX10_count 53 = .ok (.aload_n 0, 1) := by decide +kernel
theorem dX10_count_54 : decode cX10_count 54 = .ok (.getfield 11, 3) := by decide +kernel
theorem dX10_count_57 : decode cX10_count 57 = .ok (.sipush 481, 3) := by decide +kernel
theorem dX10_count_60 : decode cX10_count 60 = .ok (.iaload, 1) := by decide +kernel
theorem dX10_count_61 : decode cX10_count 61 = .ok (.ireturn, 1) := by decide +kernel
theorem dX10_count_62 : decode cX10_count 62 = .ok (.aload_n 0, 1) := by decide +kernel
theorem dX10_count_63 : decode cX10_count 63 = .ok (.getfield 114, 3) := by decide +kernel
theorem dX10_count_66 : decode cX10_count 66 = .ok (.ireturn, 1) := by decide +kernel
theorem dX10_count_67 : decode cX10_count 67 = .ok (.aload_n 0, 1) := by decide +kernel
theorem dX10_count_68 : decode cX10_count 68 = .ok (.getfield 11, 3) := by decide +kernel
theorem dX10_count_71 : decode cX10_count 71 = .ok (.sipush 492, 3) := by decide +kernel
theorem dX10_count_74 : decode cX10_count 74 = .ok (.iaload, 1) := by decide +kernel
theorem dX10_count_75 : decode cX10_count 75 = .ok (.ireturn, 1) := by decide +kernel
theorem dX10_count_76 : decode cX10_count 76 = .ok (.aload_n 0, 1) := by decide +kernel
theorem dX10_count_77 : decode cX10_count 77 = .ok (.getfield 11, 3) := by decide +kernel
theorem dX10_count_80 : decode cX10_count 80 = .ok (.sipush 505, 3) := by decide +kernel
theorem dX10_count_83 : decode cX10_count 83 = .ok (.iaload, 1) := by decide +kernel
theorem dX10_count_84 : decode cX10_count 84 = .ok (.ireturn, 1) := by decide +kernel
theorem dX10_count_85 : decode cX10_count 85 = .ok (.aload_n 0, 1) := by decide +kernel
theorem dX10_count_86 : decode cX10_count 86 = .ok (.getfield 11, 3) := by decide +kernel
theorem dX10_count_89 : decode cX10_count 89 = .ok (.sipush 526, 3) := by decide +kernel
theorem dX10_count_92 : decode cX10_count 92 = .ok (.iaload, 1) := by decide +kernel
theorem dX10_count_93 : decode cX10_count 93 = .ok (.ireturn, 1) := by decide +kernel
theorem dX10_count_94 : decode cX10_count 94 = .ok (.aload_n 0, 1) := by decide +kernel
theorem dX10_count_95 : decode cX10_count 95 = .ok (.getfield 85, 3) := by decide +kernel
theorem dX10_count_98 : decode cX10_count 98 = .ok (.ireturn, 1) := by decide +kernel
theorem dX10_count_99 : decode cX10_count 99 = .ok (.bipush (-2), 2) := by decide +kernel
theorem dX10_count_101 : decode cX10_count 101 = .ok (.ireturn, 1) := by decide +kernel
theorem dX10_tape_0 : decode cX10_tape 0 = .ok (.iload_n 1, 1) := by decide +kernel
theorem dX10_tape_1 : decode cX10_tape 1 = .ok (.invokestatic 195, 3) := by decide +kernel
theorem dX10_tape_4 : decode cX10_tape 4 = .ok (.ifCond .ne 5, 3) := by decide +kernel
theorem dX10_tape_7 : decode cX10_tape 7 = .ok (.iconst (-1), 1) := by decide +kernel
theorem dX10_tape_8 : decode cX10_tape 8 = .ok (.ireturn, 1) := by decide +kernel
theorem dX10_tape_9 : decode cX10_tape 9 = .ok (.iload_n 2, 1) := by decide +kernel
theorem dX10_tape_10 : decode cX10_tape 10 = .ok (.iconst (-1), 1) := by decide +kernel
theorem dX10_tape_11 : decode cX10_tape 11 = .ok (.iconst 4, 1) := by decide +kernel
theorem dX10_tape_12 : decode cX10_tape 12 = .ok (.invokestatic 63, 3) := by decide +kernel
theorem dX10_tape_15 : decode cX10_tape 15 = .ok (.ifCond .eq 13, 3) := by decide +kernel
theorem dX10_tape_18 : decode cX10_tape 18 = .ok (.iload_n 2, 1) := by decide +kernel
theorem dX10_tape_19 : decode cX10_tape 19 = .ok (.ifCond .lt 12, 3) := by decide +kernel
theorem dX10_tape_22 : decode cX10_tape 22 = .ok (.iload_n 3, 1) := by decide +kernel
theorem dX10_tape_23 : decode cX10_tape 23 = .ok (.bipush 60, 2) := by decide +kernel
theorem dX10_tape_25 : decode cX10_tape 25 = .ok (.if_icmp .le 6, 3) := by decide +kernel
theorem dX10_tape_28 : decode cX10_tape 28 = .ok (.bipush (-2), 2) := by decide +kernel
theorem dX10_tape_30 : decode cX10_tape 30 = .ok (.ireturn, 1) := by decide +kernel
theorem dX10_tape_31 : decode cX10_tape 31 = .ok (.iload_n 2, 1) := by decide +kernel
theorem dX10_tape_32 : decode cX10_tape 32 = .ok (.ifCond .lt 10, 3) := by decide +kernel
theorem dX10_tape_35 : decode cX10_tape 35 = .ok (.iload_n 3, 1) := by decide +kernel
theorem dX10_tape_36 : decode cX10_tape 36 = .ok (.ifCond .ge 6, 3) := by decide +kernel
theorem dX10_tape_39 : decode cX10_tape 39 = .ok (.bipush (-14), 2) := by decide +kernel
theorem dX10_tape_41 : decode cX10_tape 41 = .ok (.ireturn, 1) := by decide +kernel
theorem dX10_tape_42 : decode cX10_tape 42 = .ok (.aload_n 0, 1) := by decide +kernel
theorem dX10_tape_43 : decode cX10_tape 43 = .ok (.getfield 48, 3) := by decide +kernel
theorem dX10_tape_46 : decode cX10_tape 46 = .ok (.iload_n 1, 1) := by decide +kernel
theorem dX10_tape_47 : decode cX10_tape 47 = .ok (.iload_n 2, 1) := by decide +kernel
theorem dX10_tape_48 : decode cX10_tape 48 = .ok (.iastore, 1) := by decide +kernel
theorem dX10_tape_49 : decode cX10_tape 49 = .ok (.aload_n 0, 1) := by decide +kernel
theorem dX10_tape_50 : decode cX10_tape 50 = .ok (.getfield 51, 3) := by decide +kernel
theorem dX10_tape_53 : decode cX10_tape 53 = .ok (.iload_n 1, 1) := by decide +kernel
theorem dX10_tape_54 : decode cX10_tape 54 = .ok (.iload_n 2, 1) := by decide +kernel
theorem dX10_tape_55 : decode cX10_tape 55 = .ok (.ifCond .ge 7, 3) := by decide +kernel
theorem dX10_tape_58 : decode cX10_tape 58 = .ok (.iconst 0, 1) := by decide +kernel
theorem dX10_tape_59 : decode cX10_tape 59 = .ok (.goto 4, 3) := by decide +kernel
theorem dX10_tape_62 : decode cX10_tape 62 = .ok (.iload_n 3, 1) := by decide +kernel
theorem dX10_tape_63 : decode cX10_tape 63 = .ok (.iastore, 1) := by decide +kernel
theorem dX10_tape_64 : decode cX10_tape 64 = .ok (.iconst 0, 1) := by decide +kernel
theorem dX10_tape_65 : decode cX10_tape 65 = .ok (.istore 4, 2) := by decide +kernel
theorem dX10_tape_67 : decode cX10_tape 67 = .ok (.iload 4, 2) := by decide +kernel
theorem dX10_tape_69 : decode cX10_tape 69 = .ok (.bipush 60, 2) := by decide +kernel
theorem dX10_tape_71 : decode cX10_tape 71 = .ok (.if_icmp .ge 19, 3) := by decide +kernel
theorem dX10_tape_74 : decode cX10_tape 74 = .ok (.aload_n 0, 1) := by decide +kernel
theorem dX10_tape_75 : decode cX10_tape 75 = .ok (.getfield 56, 3) := by decide +kernel
theorem dX10_tape_78 : decode cX10_tape 78 = .ok (.iload_n 1, 1) := by decide +kernel
theorem dX10_tape_79 : decode cX10_tape 79 = .ok (.aaload, 1) := by decide +kernel
theorem dX10_tape_80 : decode cX10_tape 80 = .ok (.iload 4, 2) := by decide +kernel
theorem dX10_tape_82 : decode cX10_tape 82 = .ok (.lconst 0, 1) := by decide +kernel
theorem dX10_tape_83 : decode cX10_tape 83 = .ok (.lastore, 1) := by decide +kernel
theorem dX10_tape_84 : decode cX10_tape 84 = .ok (.iinc 4 1, 3) := by decide +kernel
theorem dX10_tape_87 : decode cX10_tape 87 = .ok (.goto (-20), 3) := by decide +kernel
theorem dX10_tape_90 : decode cX10_tape 90 = .ok (.iconst 1, 1) := by decide +kernel
theorem dX10_tape_91 : decode cX10_tape 91 = .ok (.ireturn, 1) := by decide +kernel
theorem dX10_fit_0 : decode cX10_fit 0 = .ok (.iload_n 0, 1) := by decide +kernel
theorem dX10_fit_1 : decode cX10_fit 1 = .ok (.tableswitch 47 0 3 #[31, 36, 41, 45], 31) := by decide +kernel
theorem dX10_fit_32 : decode cX10_fit 32 = .ok (.lload_n 1, 1) := by decide +kernel
theorem dX10_fit_33 : decode cX10_fit 33 = .ok (.l2i, 1) := by decide +kernel
theorem dX10_fit_34 : decode cX10_fit 34 = .ok (.i2b, 1) := by decide +kernel
theorem dX10_fit_35 : decode cX10_fit 35 = .ok (.i2l, 1) := by decide +kernel
theorem dX10_fit_36 : decode cX10_fit 36 = .ok (.lreturn, 1) := by decide +kernel
theorem dX10_fit_37 : decode cX10_fit 37 = .ok (.lload_n 1, 1) := by decide +kernel
theorem dX10_fit_38 : decode cX10_fit 38 = .ok (.l2i, 1) := by decide +kernel
theorem dX10_fit_39 : decode cX10_fit 39 = .ok (.i2s, 1) := by decide +kernel
theorem dX10_fit_40 : decode cX10_fit 40 = .ok (.i2l, 1) := by decide +kernel
theorem dX10_fit_41 : decode cX10_fit 41 = .ok (.lreturn, 1) := by decide +kernel
theorem dX10_fit_42 : decode cX10_fit 42 = .ok (.lload_n 1, 1) := by decide +kernel
theorem dX10_fit_43 : decode cX10_fit 43 = .ok (.l2i, 1) := by decide +kernel
theorem dX10_fit_44 : decode cX10_fit 44 = .ok (.i2l, 1) := by decide +kernel
theorem dX10_fit_45 : decode cX10_fit 45 = .ok (.lreturn, 1) := by decide +kernel
theorem dX10_fit_46 : decode cX10_fit 46 = .ok (.lload_n 1, 1) := by decide +kernel
theorem dX10_fit_47 : decode cX10_fit 47 = .ok (.lreturn, 1) := by decide +kernel
theorem dX10_fit_48 : decode cX10_fit 48 = .ok (.lload_n 1, 1) := by decide +kernel
theorem dX10_fit_49 : decode cX10_fit 49 = .ok (.lconst 0, 1) := by decide +kernel
theorem dX10_fit_50 : decode cX10_fit 50 = .ok (.lcmp, 1) := by decide +kernel
theorem dX10_fit_51 : decode cX10_fit 51 = .ok (.ifCond .eq 7, 3) := by decide +kernel
theorem dX10_fit_54 : decode cX10_fit 54 = .ok (.lconst 1, 1) := by decide +kernel
theorem dX10_fit_55 : decode cX10_fit 55 = .ok (.goto 4, 3) := by decide +kernel
theorem dX10_fit_58 : decode cX10_fit 58 = .ok (.lconst 0, 1) := by decide +kernel
theorem dX10_fit_59 : decode cX10_fit 59 = .ok (.lreturn, 1) := by decide +kernel
theorem dX10_item_0 : decode cX10_item 0 = .ok (.iload_n 1, 1) := by decide +kernel
theorem dX10_item_1 : decode cX10_item 1 = .ok (.invokestatic 195, 3) := by decide +kernel
theorem dX10_item_4 : decode cX10_item 4 = .ok (.ifCond .ne 5, 3) := by decide +kernel
theorem dX10_item_7 : decode cX10_item 7 = .ok (.iconst (-1), 1) := by decide +kernel
theorem dX10_item_8 : decode cX10_item 8 = .ok (.ireturn, 1) := by decide +kernel
theorem dX10_item_9 : decode cX10_item 9 = .ok (.aload_n 0, 1) := by decide +kernel
theorem dX10_item_10 : decode cX10_item 10 = .ok (.getfield 48, 3) := by decide +kernel
theorem dX10_item_13 : decode cX10_item 13 = .ok (.iload_n 1, 1) := by decide +kernel
theorem dX10_item_14 : decode cX10_item 14 = .ok (.iaload, 1) := by decide +kernel
theorem dX10_item_15 : decode cX10_item 15 = .ok (.ifCond .ge 6, 3) := by decide +kernel
theorem dX10_item_18 : decode cX10_item 18 = .ok (.bipush (-11), 2) := by decide +kernel
theorem dX10_item_20 : decode cX10_item 20 = .ok (.ireturn, 1) := by decide +kernel
theorem dX10_item_21 : decode cX10_item 21 = .ok (.iload_n 2, 1) := by decide +kernel
theorem dX10_item_22 : decode cX10_item 22 = .ok (.iconst 0, 1) := by decide +kernel
theorem dX10_item_23 : decode cX10_item 23 = .ok (.aload_n 0, 1) := by decide +kernel
theorem dX10_item_24 : decode cX10_item 24 = .ok (.getfield 51, 3) := by decide +kernel
theorem dX10_item_27 : decode cX10_item 27 = .ok (.iload_n 1, 1) := by decide +kernel
theorem dX10_item_28 : decode cX10_item 28 = .ok (.iaload, 1) := by decide +kernel
theorem dX10_item_29 : decode cX10_item 29 = .ok (.iconst 1, 1) := by decide +kernel
theorem dX10_item_30 : decode cX10_item 30 = .ok (.isub, 1) := by decide +kernel
theorem dX10_item_31 : decode cX10_item 31 = .ok (.invokestatic 63, 3) := by decide +kernel
theorem dX10_item_34 : decode cX10_item 34 = .ok (.ifCond .ne 6, 3) := by decide +kernel
theorem dX10_item_37 : decode cX10_item 37 = .ok (.bipush (-13), 2) := by decide +kernel
theorem dX10_item_39 : decode cX10_item 39 = .ok (.ireturn, 1) := by decide +kernel
theorem dX10_item_40 : decode cX10_item 40 = .ok (.aload_n 0, 1) := by decide +kernel
theorem dX10_item_41 : decode cX10_item 41 = .ok (.getfield 56, 3) := by decide +kernel
theorem dX10_item_44 : decode cX10_item 44 = .ok (.iload_n 1, 1) := by decide +kernel
theorem dX10_item_45 : decode cX10_item 45 = .ok (.aaload, 1) := by decide +kernel
theorem dX10_item_46 : decode cX10_item 46 = .ok (.iload_n 2, 1) := by decide +kernel
theorem dX10_item_47 : decode cX10_item 47 = .ok (.aload_n 0, 1) := by decide +kernel
theorem dX10_item_48 : decode cX10_item 48 = .ok (.getfield 48, 3) := by decide +kernel
theorem dX10_item_51 : decode cX10_item 51 = .ok (.iload_n 1, 1) := by decide +kernel
theorem dX10_item_52 : decode cX10_item 52 = .ok (.iaload, 1) := by decide +kernel
theorem dX10_item_53 : decode cX10_item 53 = .ok (.lload_n 3, 1) := by decide +kernel
theorem dX10_item_54 : decode cX10_item 54 = .ok (.invokestatic 202, 3) := by decide +kernel
theorem dX10_item_57 : decode cX10_item 57 = .ok (.lastore, 1) := by decide +kernel
theorem dX10_item_58 : decode cX10_item 58 = .ok (.iconst 1, 1) := by decide +kernel
theorem dX10_item_59 : decode cX10_item 59 = .ok (.ireturn, 1) := by decide +kernel
theorem dX10_read_0 : decode cX10_read 0 = .ok (.iload_n 1, 1) := by decide +kernel
theorem dX10_read_1 : decode cX10_read 1 = .ok (.invokestatic 195, 3) := by decide +kernel
theorem dX10_read_4 : decode cX10_read 4 = .ok (.ifCond .eq 39, 3) := by decide +kernel
theorem dX10_read_7 : decode cX10_read 7 = .ok (.aload_n 0, 1) := by decide +kernel
theorem dX10_read_8 : decode cX10_read 8 = .ok (.getfield 48, 3) := by decide +kernel
theorem dX10_read_11 : decode cX10_read 11 = .ok (.iload_n 1, 1) := by decide +kernel
theorem dX10_read_12 : decode cX10_read 12 = .ok (.iaload, 1) := by decide +kernel
theorem dX10_read_13 : decode cX10_read 13 = .ok (.ifCond .lt 30, 3) := by decide +kernel
theorem dX10_read_16 : decode cX10_read 16 = .ok (.iload_n 2, 1) := by decide +kernel
theorem dX10_read_17 : decode cX10_read 17 = .ok (.iconst 0, 1) := by decide +kernel
theorem dX10_read_18 : decode cX10_read 18 = .ok (.aload_n 0, 1) := by decide +kernel
theorem dX10_read_19 : decode cX10_read 19 = .ok (.getfield 51, 3) := by decide +kernel
theorem dX10_read_22 : decode cX10_read 22 = .ok (.iload_n 1, 1) := by decide +kernel
theorem dX10_read_23 : decode cX10_read 23 = .ok (.iaload, 1) := by decide +kernel
theorem dX10_read_24 : decode cX10_read 24 = .ok (.iconst 1, 1) := by decide +kernel
theorem dX10_read_25 : decode cX10_read 25 = .ok (.isub, 1) := by decide +kernel
theorem dX10_read_26 : decode cX10_read 26 = .ok (.invokestatic 63, 3) := by decide +kernel
theorem dX10_read_29 : decode cX10_read 29 = .ok (.ifCond .eq 14, 3) := by decide +kernel
theorem dX10_read_32 : decode cX10_read 32 = .ok (.aload_n 0, 1) := by decide +kernel
theorem dX10_read_33 : decode cX10_read 33 = .ok (.getfield 56, 3) := by decide +kernel
theorem dX10_read_36 : decode cX10_read 36 = .ok (.iload_n 1, 1) := by decide +kernel
theorem dX10_read_37 : decode cX10_read 37 = .ok (.aaload, 1) := by decide +kernel
theorem dX10_read_38 : decode cX10_read 38 = .ok (.iload_n 2, 1) := by decide +kernel
theorem dX10_read_39 : decode cX10_read 39 = .ok (.laload, 1) := by decide +kernel
theorem dX10_read_40 : decode cX10_read 40 = .ok (.goto 6, 3) := by decide +kernel
theorem dX10_read_43 : decode cX10_read 43 = .ok (.ldc2_w 182, 3) := by decide +kernel
theorem dX10_read_46 : decode cX10_read 46 = .ok (.lreturn, 1) := by decide +kernel
theorem dX10_shift_0 : decode cX10_shift 0 = .ok (.iload_n 1, 1) := by decide +kernel
theorem dX10_shift_1 : decode cX10_shift 1 = .ok (.invokestatic 195, 3) := by decide +kernel
theorem dX10_shift_4 : decode cX10_shift 4 = .ok (.ifCond .eq 10, 3) := by decide +kernel
theorem dX10_shift_7 : decode cX10_shift 7 = .ok (.iload_n 3, 1) := by decide +kernel
theorem dX10_shift_8 : decode cX10_shift 8 = .ok (.invokestatic 195, 3) := by decide +kernel
theorem dX10_shift_11 : decode cX10_shift 11 = .ok (.ifCond .ne 5, 3) := by decide +kernel
theorem dX10_shift_14 : decode cX10_shift 14 = .ok (.iconst (-1), 1) := by decide +kernel
theorem dX10_shift_15 : decode cX10_shift 15 = .ok (.ireturn, 1) := by decide +kernel
theorem dX10_shift_16 : decode cX10_shift 16 = .ok (.aload_n 0, 1) := by decide +kernel
theorem dX10_shift_17 : decode cX10_shift 17 = .ok (.getfield 48, 3) := by decide +kernel
theorem dX10_shift_20 : decode cX10_shift 20 = .ok (.iload_n 1, 1) := by decide +kernel
theorem dX10_shift_21 : decode cX10_shift 21 = .ok (.iaload, 1) := by decide +kernel
theorem dX10_shift_22 : decode cX10_shift 22 = .ok (.ifCond .lt 12, 3) := by decide +kernel
theorem dX10_shift_25 : decode cX10_shift 25 = .ok (.aload_n 0, 1) := by decide +kernel
theorem dX10_shift_26 : decode cX10_shift 26 = .ok (.getfield 48, 3) := by decide +kernel
theorem dX10_shift_29 : decode cX10_shift 29 = .ok (.iload_n 3, 1) := by decide +kernel
theorem dX10_shift_30 : decode cX10_shift 30 = .ok (.iaload, 1) := by decide +kernel
theorem dX10_shift_31 : decode cX10_shift 31 = .ok (.ifCond .ge 6, 3) := by decide +kernel
theorem dX10_shift_34 : decode cX10_shift 34 = .ok (.bipush (-11), 2) := by decide +kernel
theorem dX10_shift_36 : decode cX10_shift 36 = .ok (.ireturn, 1) := by decide +kernel
theorem dX10_shift_37 : decode cX10_shift 37 = .ok (.aload_n 0, 1) := by decide +kernel
theorem dX10_shift_38 : decode cX10_shift 38 = .ok (.getfield 48, 3) := by decide +kernel
theorem dX10_shift_41 : decode cX10_shift 41 = .ok (.iload_n 1, 1) := by decide +kernel
theorem dX10_shift_42 : decode cX10_shift 42 = .ok (.iaload, 1) := by decide +kernel
theorem dX10_shift_43 : decode cX10_shift 43 = .ok (.aload_n 0, 1) := by decide +kernel
theorem dX10_shift_44 : decode cX10_shift 44 = .ok (.getfield 48, 3) := by decide +kernel
theorem dX10_shift_47 : decode cX10_shift 47 = .ok (.iload_n 3, 1) := by decide +kernel
theorem dX10_shift_48 : decode cX10_shift 48 = .ok (.iaload, 1) := by decide +kernel
theorem dX10_shift_49 : decode cX10_shift 49 = .ok (.if_icmp .eq 6, 3) := by decide +kernel
theorem dX10_shift_52 : decode cX10_shift 52 = .ok (.bipush (-12), 2) := by decide +kernel
theorem dX10_shift_54 : decode cX10_shift 54 = .ok (.ireturn, 1) := by decide +kernel
theorem dX10_shift_55 : decode cX10_shift 55 = .ok (.iload 5, 2) := by decide +kernel
theorem dX10_shift_57 : decode cX10_shift 57 = .ok (.ifCond .lt 61, 3) := by decide +kernel
theorem dX10_shift_60 : decode cX10_shift 60 = .ok (.iload_n 2, 1) := by decide +kernel
theorem dX10_shift_61 : decode cX10_shift 61 = .ok (.ifCond .lt 57, 3) := by decide +kernel
theorem dX10_shift_64 : decode cX10_shift 64 = .ok (.iload 4, 2) := by decide +kernel
theorem dX10_shift_66 : decode cX10_shift 66 = .ok (.ifCond .lt 52, 3) := by decide +kernel
theorem dX10_shift_69 : decode cX10_shift 69 = .ok (.iload 5, 2) := by decide +kernel
theorem dX10_shift_71 : decode cX10_shift 71 = .ok (.aload_n 0, 1) := by decide +kernel
theorem dX10_shift_72 : decode cX10_shift 72 = .ok (.getfield 51, 3) := by decide +kernel
theorem dX10_shift_75 : decode cX10_shift 75 = .ok (.iload_n 1, 1) := by decide +kernel
theorem dX10_shift_76 : decode cX10_shift 76 = .ok (.iaload, 1) := by decide +kernel
theorem dX10_shift_77 : decode cX10_shift 77 = .ok (.if_icmp .gt 41, 3) := by decide +kernel
theorem dX10_shift_80 : decode cX10_shift 80 = .ok (.iload 5, 2) := by decide +kernel
theorem dX10_shift_82 : decode cX10_shift 82 = .ok (.aload_n 0, 1) := by decide +kernel
theorem dX10_shift_83 : decode cX10_shift 83 = .ok (.getfield 51, 3) := by decide +kernel
theorem dX10_shift_86 : decode cX10_shift 86 = .ok (.iload_n 3, 1) := by decide +kernel
theorem dX10_shift_87 : decode cX10_shift 87 = .ok (.iaload, 1) := by decide +kernel
theorem dX10_shift_88 : decode cX10_shift 88 = .ok (.if_icmp .gt 30, 3) := by decide +kernel
theorem dX10_shift_91 : decode cX10_shift 91 = .ok (.iload_n 2, 1) := by decide +kernel
theorem dX10_shift_92 : decode cX10_shift 92 = .ok (.aload_n 0, 1) := by decide +kernel
theorem dX10_shift_93 : decode cX10_shift 93 = .ok (.getfield 51, 3) := by decide +kernel
theorem dX10_shift_96 : decode cX10_shift 96 = .ok (.iload_n 1, 1) := by decide +kernel
theorem dX10_shift_97 : decode cX10_shift 97 = .ok (.iaload, 1) := by decide +kernel
theorem dX10_shift_98 : decode cX10_shift 98 = .ok (.iload 5, 2) := by decide +kernel
theorem dX10_shift_100 : decode cX10_shift 100 = .ok (.isub, 1) := by decide +kernel
theorem dX10_shift_101 : decode cX10_shift 101 = .ok (.if_icmp .gt 17, 3) := by decide +kernel
theorem dX10_shift_104 : decode cX10_shift 104 = .ok (.iload 4, 2) := by decide +kernel
theorem dX10_shift_106 : decode cX10_shift 106 = .ok (.aload_n 0, 1) := by decide +kernel
theorem dX10_shift_107 : decode cX10_shift 107 = .ok (.getfield 51, 3) := by decide +kernel
theorem dX10_shift_110 : decode cX10_shift 110 = .ok (.iload_n 3, 1) := by decide +kernel
theorem dX10_shift_111 : decode cX10_shift 111 = .ok (.iaload, 1) := by decide +kernel
theorem dX10_shift_112 : decode cX10_shift 112 = .ok (.iload 5, 2) := by decide +kernel
theorem dX10_shift_114 : decode cX10_shift 114 = .ok (.isub, 1) := by decide +kernel
theorem dX10_shift_115 : decode cX10_shift 115 = .ok (.if_icmp .le 6, 3) := by decide +kernel
theorem dX10_shift_118 : decode cX10_shift 118 = .ok (.bipush (-13), 2) := by decide +kernel
theorem dX10_shift_120 : decode cX10_shift 120 = .ok (.ireturn, 1) := by decide +kernel
theorem dX10_shift_121 : decode cX10_shift 121 = .ok (.iconst 0, 1) := by decide +kernel
theorem dX10_shift_122 : decode cX10_shift 122 = .ok (.istore 6, 2) := by decide +kernel
theorem dX10_shift_124 : decode cX10_shift 124 = .ok (.iload 6, 2) := by decide +kernel
theorem dX10_shift_126 : decode cX10_shift 126 = .ok (.iload 5, 2) := by decide +kernel
theorem dX10_shift_128 : decode cX10_shift 128 = .ok (.if_icmp .ge 27, 3) := by decide +kernel
theorem dX10_shift_131 : decode cX10_shift 131 = .ok (.aload_n 0, 1) := by decide +kernel
theorem dX10_shift_132 : decode cX10_shift 132 = .ok (.getfield 59, 3) := by decide +kernel
theorem dX10_shift_135 : decode cX10_shift 135 = .ok (.iload 6, 2) := by decide +kernel
theorem dX10_shift_137 : decode cX10_shift 137 = .ok (.aload_n 0, 1) := by decide +kernel
theorem dX10_shift_138 : decode cX10_shift 138 = .ok (.getfield 56, 3) := by decide +kernel
theorem dX10_shift_141 : decode cX10_shift 141 = .ok (.iload_n 1, 1) := by decide +kernel
theorem dX10_shift_142 : decode cX10_shift 142 = .ok (.aaload, 1) := by decide +kernel
theorem dX10_shift_143 : decode cX10_shift 143 = .ok (.iload_n 2, 1) := by decide +kernel
theorem dX10_shift_144 : decode cX10_shift 144 = .ok (.iload 6, 2) := by decide +kernel
theorem dX10_shift_146 : decode cX10_shift 146 = .ok (.iadd, 1) := by decide +kernel
theorem dX10_shift_147 : decode cX10_shift 147 = .ok (.laload, 1) := by decide +kernel
theorem dX10_shift_148 : decode cX10_shift 148 = .ok (.lastore, 1) := by decide +kernel
theorem dX10_shift_149 : decode cX10_shift 149 = .ok (.iinc 6 1, 3) := by decide +kernel
theorem dX10_shift_152 : decode cX10_shift 152 = .ok (.goto (-28), 3) := by decide +kernel
theorem dX10_shift_155 : decode cX10_shift 155 = .ok (.iconst 0, 1) := by decide +kernel
theorem dX10_shift_156 : decode cX10_shift 156 = .ok (.istore 6, 2) := by decide +kernel
theorem dX10_shift_158 : decode cX10_shift 158 = .ok (.iload 6, 2) := by decide +kernel
theorem dX10_shift_160 : decode cX10_shift 160 = .ok (.iload 5, 2) := by decide +kernel
theorem dX10_shift_162 : decode cX10_shift 162 = .ok (.if_icmp .ge 28, 3) := by decide +kernel
theorem dX10_shift_165 : decode cX10_shift 165 = .ok (.aload_n 0, 1) := by decide +kernel
theorem dX10_shift_166 : decode cX10_shift 166 = .ok (.getfield 56, 3) := by decide +kernel
theorem dX10_shift_169 : decode cX10_shift 169 = .ok (.iload_n 3, 1) := by decide +kernel
theorem dX10_shift_170 : decode cX10_shift 170 = .ok (.aaload, 1) := by decide +kernel
theorem dX10_shift_171 : decode cX10_shift 171 = .ok (.iload 4, 2) := by decide +kernel
theorem dX10_shift_173 : decode cX10_shift 173 = .ok (.iload 6, 2) := by decide +kernel
theorem dX10_shift_175 : decode cX10_shift 175 = .ok (.iadd, 1) := by decide +kernel
theorem dX10_shift_176 : decode cX10_shift 176 = .ok (.aload_n 0, 1) := by decide +kernel
theorem dX10_shift_177 : decode cX10_shift 177 = .ok (.getfield 59, 3) := by decide +kernel
theorem dX10_shift_180 : decode cX10_shift 180 = .ok (.iload 6, 2) := by decide +kernel
theorem dX10_shift_182 : decode cX10_shift 182 = .ok (.laload, 1) := by decide +kernel
theorem dX10_shift_183 : decode cX10_shift 183 = .ok (.lastore, 1) := by decide +kernel
theorem dX10_shift_184 : decode cX10_shift 184 = .ok (.iinc 6 1, 3) := by decide +kernel
theorem dX10_shift_187 : decode cX10_shift 187 = .ok (.goto (-29), 3) := by decide +kernel
theorem dX10_shift_190 : decode cX10_shift 190 = .ok (.iload 5, 2) := by decide +kernel
theorem dX10_shift_192 : decode cX10_shift 192 = .ok (.ireturn, 1) := by decide +kernel
end
section
/-! decode rows (printed by wip/whole/gen/mk04.py) -/
theorem dL_law_0 : decode cL_law 0 = .ok (.new 7, 3) := by decide +kernel
theorem dL_law_3 : decode cL_law 3 = .ok (.dup, 1) := by decide +kernel
theorem dL_law_4 : decode cL_law 4 = .ok (.invokespecial 9, 3) := by decide +kernel
theorem dL_law_7 : decode cL_law 7 = .ok (.astore_n 1, 1) := by decide +kernel
theorem dL_law_8 : decode cL_law 8 = .ok (.new 10, 3) := by decide +kernel
theorem dL_law_11 : decode cL_law 11 = .ok (.dup, 1) := by decide +kernel
theorem dL_law_12 : decode cL_law 12 = .ok (.invokespecial 12, 3) := by decide +kernel
theorem dL_law_15 : decode cL_law 15 = .ok (.astore_n 2, 1) := by decide +kernel
theorem dL_law_16 : decode cL_law 16 = .ok (.iconst 0, 1) := by decide +kernel
theorem dL_law_17 : decode cL_law 17 = .ok (.istore_n 3, 1) := by decide +kernel
theorem dL_law_18 : decode cL_law 18 = .ok (.iload_n 3, 1) := by decide +kernel
theorem dL_law_19 : decode cL_law 19 = .ok (.aload_n 0, 1) := by decide +kernel
theorem dL_law_20 : decode cL_law 20 = .ok (.arraylength, 1) := by decide +kernel
theorem dL_law_21 : decode cL_law 21 = .ok (.bipush 6, 2) := by decide +kernel
theorem dL_law_23 : decode cL_law 23 = .ok (.isub, 1) := by decide +kernel
theorem dL_law_24 : decode cL_law 24 = .ok (.if_icmp .gt 1189, 3) := by decide +kernel
theorem dL_law_27 : decode cL_law 27 = .ok (.aload_n 0, 1) := by decide +kernel
theorem dL_law_28 : decode cL_law 28 = .ok (.iload_n 3, 1) := by decide +kernel
theorem dL_law_29 : decode cL_law 29 = .ok (.iaload, 1) := by decide +kernel
theorem dL_law_30 : decode cL_law 30 = .ok (.bipush 31, 2) := by decide +kernel
theorem dL_law_32 : decode cL_law 32 = .ok (.iand, 1) := by decide +kernel
theorem dL_law_33 : decode cL_law 33 = .ok (.tableswitch 1174 0 29 #[135, 188, 221, 234, 257, 290, 333, 356, 369, 402, 435, 478, 521, 564, 613, 646, 680, 724, 757, 790, 823, 836, 879, 892, 905, 938, 961, 1004, 1077, 1111], 135) := by decide +kernel
theorem dL_law_168 : decode cL_law 168 = .ok (.aload_n 1, 1) := by decide +kernel
theorem dL_law_169 : decode cL_law 169 = .ok (.aload_n 0, 1) := by decide +kernel
theorem dL_law_170 : decode cL_law 170 = .ok (.iload_n 3, 1) := by decide +kernel
theorem dL_law_171 : decode cL_law 171 = .ok (.iconst 1, 1) := by decide +kernel
theorem dL_law_172 : decode cL_law 172 = .ok (.iadd, 1) := by decide +kernel
theorem dL_law_173 : decode cL_law 173 = .ok (.iaload, 1) := by decide +kernel
theorem dL_law_174 : decode cL_law 174 = .ok (.aload_n 0, 1) := by decide +kernel
theorem dL_law_175 : decode cL_law 175 = .ok (.iload_n 3, 1) := by decide +kernel
theorem dL_law_176 : decode cL_law 176 = .ok (.iconst 2, 1) := by decide +kernel
theorem dL_law_177 : decode cL_law 177 = .ok (.iadd, 1) := by decide +kernel
theorem dL_law_178 : decode cL_law 178 = .ok (.iaload, 1) := by decide +kernel
theorem dL_law_179 : decode cL_law 179 = .ok (.aload_n 0, 1) := by decide +kernel
theorem dL_law_180 : decode cL_law 180 = .ok (.iload_n 3, 1) := by decide +kernel
theorem dL_law_181 : decode cL_law 181 = .ok (.iconst 3, 1) := by decide +kernel
theorem dL_law_182 : decode cL_law 182 = .ok (.iadd, 1) := by decide +kernel
theorem dL_law_183 : decode cL_law 183 = .ok (.iaload, 1) := by decide +kernel
theorem dL_law_184 : decode cL_law 184 = .ok (.aload_n 0, 1) := by decide +kernel
theorem dL_law_185 : decode cL_law 185 = .ok (.iload_n 3, 1) := by decide +kernel
theorem dL_law_186 : decode cL_law 186 = .ok (.iconst 4, 1) := by decide +kernel
theorem dL_law_187 : decode cL_law 187 = .ok (.iadd, 1) := by decide +kernel
theorem dL_law_188 : decode cL_law 188 = .ok (.iaload, 1) := by decide +kernel
theorem dL_law_189 : decode cL_law 189 = .ok (.invokevirtual 13, 3) := by decide +kernel
theorem dL_law_192 : decode cL_law 192 = .ok (.aload_n 2, 1) := by decide +kernel
theorem dL_law_193 : decode cL_law 193 = .ok (.aload_n 0, 1) := by decide +kernel
theorem dL_law_194 : decode cL_law 194 = .ok (.iload_n 3, 1) := by decide +kernel
theorem dL_law_195 : decode cL_law 195 = .ok (.iconst 1, 1) := by decide +kernel
theorem dL_law_196 : decode cL_law 196 = .ok (.iadd, 1) := by decide +kernel
theorem dL_law_197 : decode cL_law 197 = .ok (.iaload, 1) := by decide +kernel
theorem dL_law_198 : decode cL_law 198 = .ok (.aload_n 0, 1) := by decide +kernel
theorem dL_law_199 : decode cL_law 199 = .ok (.iload_n 3, 1) := by decide +kernel
theorem dL_law_200 : decode cL_law 200 = .ok (.iconst 2, 1) := by decide +kernel
theorem dL_law_201 : decode cL_law 201 = .ok (.iadd, 1) := by decide +kernel
theorem dL_law_202 : decode cL_law 202 = .ok (.iaload, 1) := by decide +kernel
theorem dL_law_203 : decode cL_law 203 = .ok (.aload_n 0, 1) := by decide +kernel
theorem dL_law_204 : decode cL_law 204 = .ok (.iload_n 3, 1) := by decide +kernel
theorem dL_law_205 : decode cL_law 205 = .ok (.iconst 3, 1) := by decide +kernel
theorem dL_law_206 : decode cL_law 206 = .ok (.iadd, 1) := by decide +kernel
theorem dL_law_207 : decode cL_law 207 = .ok (.iaload, 1) := by decide +kernel
theorem dL_law_208 : decode cL_law 208 = .ok (.aload_n 0, 1) := by decide +kernel
theorem dL_law_209 : decode cL_law 209 = .ok (.iload_n 3, 1) := by decide +kernel
theorem dL_law_210 : decode cL_law 210 = .ok (.iconst 4, 1) := by decide +kernel
theorem dL_law_211 : decode cL_law 211 = .ok (.iadd, 1) := by decide +kernel
theorem dL_law_212 : decode cL_law 212 = .ok (.iaload, 1) := by decide +kernel
theorem dL_law_213 : decode cL_law 213 = .ok (.invokevirtual 17, 3) := by decide +kernel
theorem dL_law_216 : decode cL_law 216 = .ok (.if_icmp .eq 991, 3) := by decide +kernel
theorem dL_law_219 : decode cL_law 219 = .ok (.iconst 0, 1) := by decide +kernel
theorem dL_law_220 : decode cL_law 220 = .ok (.ireturn, 1) := by decide +kernel
theorem dL_law_221 : decode cL_law 221 = .ok (.aload_n 1, 1) := by decide +kernel
theorem dL_law_222 : decode cL_law 222 = .ok (.aload_n 0, 1) := by decide +kernel
theorem dL_law_223 : decode cL_law 223 = .ok (.iload_n 3, 1) := by decide +kernel
theorem dL_law_224 : decode cL_law 224 = .ok (.iconst 1, 1) := by decide +kernel
theorem dL_law_225 : decode cL_law 225 = .ok (.iadd, 1) := by decide +kernel
theorem dL_law_226 : decode cL_law 226 = .ok (.iaload, 1) := by decide +kernel
theorem dL_law_227 : decode cL_law 227 = .ok (.aload_n 0, 1) := by decide +kernel
theorem dL_law_228 : decode cL_law 228 = .ok (.iload_n 3, 1) := by decide +kernel
theorem dL_law_229 : decode cL_law 229 = .ok (.iconst 2, 1) := by decide +kernel
theorem dL_law_230 : decode cL_law 230 = .ok (.iadd, 1) := by decide +kernel
theorem dL_law_231 : decode cL_law 231 = .ok (.iaload, 1) := by decide +kernel
theorem dL_law_232 : decode cL_law 232 = .ok (.invokevirtual 18, 3) := by decide +kernel
theorem dL_law_235 : decode cL_law 235 = .ok (.aload_n 2, 1) := by decide +kernel
theorem dL_law_236 : decode cL_law 236 = .ok (.aload_n 0, 1) := by decide +kernel
theorem dL_law_237 : decode cL_law 237 = .ok (.iload_n 3, 1) := by decide +kernel
theorem dL_law_238 : decode cL_law 238 = .ok (.iconst 1, 1) := by decide +kernel
theorem dL_law_239 : decode cL_law 239 = .ok (.iadd, 1) := by decide +kernel
theorem dL_law_240 : decode cL_law 240 = .ok (.iaload, 1) := by decide +kernel
theorem dL_law_241 : decode cL_law 241 = .ok (.aload_n 0, 1) := by decide +kernel
theorem dL_law_242 : decode cL_law 242 = .ok (.iload_n 3, 1) := by decide +kernel
theorem dL_law_243 : decode cL_law 243 = .ok (.iconst 2, 1) := by decide +kernel
theorem dL_law_244 : decode cL_law 244 = .ok (.iadd, 1) := by decide +kernel
theorem dL_law_245 : decode cL_law 245 = .ok (.iaload, 1) := by decide +kernel
theorem dL_law_246 : decode cL_law 246 = .ok (.invokevirtual 22, 3) := by decide +kernel
theorem dL_law_249 : decode cL_law 249 = .ok (.if_icmp .eq 958, 3) := by decide +kernel
theorem dL_law_252 : decode cL_law 252 = .ok (.iconst 0, 1) := by decide +kernel
theorem dL_law_253 : decode cL_law 253 = .ok (.ireturn, 1) := by decide +kernel
theorem dL_law_254 : decode cL_law 254 = .ok (.aload_n 1, 1) := by decide +kernel
theorem dL_law_255 : decode cL_law 255 = .ok (.invokevirtual 23, 3) := by decide +kernel
theorem dL_law_258 : decode cL_law 258 = .ok (.aload_n 2, 1) := by decide +kernel
theorem dL_law_259 : decode cL_law 259 = .ok (.invokevirtual 27, 3) := by decide +kernel
theorem dL_law_262 : decode cL_law 262 = .ok (.if_icmp .eq 945, 3) := by decide +kernel
theorem dL_law_265 : decode cL_law 265 = .ok (.iconst 0, 1) := by decide +kernel
theorem dL_law_266 : decode cL_law 266 = .ok (.ireturn, 1) := by decide +kernel
theorem dL_law_267 : decode cL_law 267 = .ok (.aload_n 1, 1) := by decide +kernel
theorem dL_law_268 : decode cL_law 268 = .ok (.aload_n 0, 1) := by decide +kernel
theorem dL_law_269 : decode cL_law 269 = .ok (.iload_n 3, 1) := by decide +kernel
theorem dL_law_270 : decode cL_law 270 = .ok (.iconst 1, 1) := by decide +kernel
theorem dL_law_271 : decode cL_law 271 = .ok (.iadd, 1) := by decide +kernel
theorem dL_law_272 : decode cL_law 272 = .ok (.iaload, 1) := by decide +kernel
theorem dL_law_273 : decode cL_law 273 = .ok (.invokevirtual 28, 3) := by decide +kernel
theorem dL_law_276 : decode cL_law 276 = .ok (.aload_n 2, 1) := by decide +kernel
theorem dL_law_277 : decode cL_law 277 = .ok (.aload_n 0, 1) := by decide +kernel
theorem dL_law_278 : decode cL_law 278 = .ok (.iload_n 3, 1) := by decide +kernel
theorem dL_law_279 : decode cL_law 279 = .ok (.iconst 1, 1) := by decide +kernel
theorem dL_law_280 : decode cL_law 280 = .ok (.iadd, 1) := by decide +kernel
theorem dL_law_281 : decode cL_law 281 = .ok (.iaload, 1) := by decide +kernel
theorem dL_law_282 : decode cL_law 282 = .ok (.invokevirtual 32, 3) := by decide +kernel
theorem dL_law_285 : decode cL_law 285 = .ok (.if_icmp .eq 922, 3) := by decide +kernel
theorem dL_law_288 : decode cL_law 288 = .ok (.iconst 0, 1) := by decide +kernel
theorem dL_law_289 : decode cL_law 289 = .ok (.ireturn, 1) := by decide +kernel
theorem dL_law_290 : decode cL_law 290 = .ok (.aload_n 1, 1) := by decide +kernel
theorem dL_law_291 : decode cL_law 291 = .ok (.aload_n 0, 1) := by decide +kernel
theorem dL_law_292 : decode cL_law 292 = .ok (.iload_n 3, 1) := by decide +kernel
theorem dL_law_293 : decode cL_law 293 = .ok (.iconst 1, 1) := by decide +kernel
theorem dL_law_294 : decode cL_law 294 = .ok (.iadd, 1) := by decide +kernel
theorem dL_law_295 : decode cL_law 295 = .ok (.iaload, 1) := by decide +kernel
theorem dL_law_296 : decode cL_law 296 = .ok (.aload_n 0, 1) := by decide +kernel
theorem dL_law_297 : decode cL_law 297 = .ok (.iload_n 3, 1) := by decide +kernel
theorem dL_law_298 : decode cL_law 298 = .ok (.iconst 2, 1) := by decide +kernel
theorem dL_law_299 : decode cL_law 299 = .ok (.iadd, 1) := by decide +kernel
theorem dL_law_300 : decode cL_law 300 = .ok (.iaload, 1) := by decide +kernel
theorem dL_law_301 : decode cL_law 301 = .ok (.invokevirtual 33, 3) := by decide +kernel
theorem dL_law_304 : decode cL_law 304 = .ok (.aload_n 2, 1) := by decide +kernel
theorem dL_law_305 : decode cL_law 305 = .ok (.aload_n 0, 1) := by decide +kernel
theorem dL_law_306 : decode cL_law 306 = .ok (.iload_n 3, 1) := by decide +kernel
theorem dL_law_307 : decode cL_law 307 = .ok (.iconst 1, 1) := by decide +kernel
theorem dL_law_308 : decode cL_law 308 = .ok (.iadd, 1) := by decide +kernel
theorem dL_law_309 : decode cL_law 309 = .ok (.iaload, 1) := by decide +kernel
theorem dL_law_310 : decode cL_law 310 = .ok (.aload_n 0, 1) := by decide +kernel
theorem dL_law_311 : decode cL_law 311 = .ok (.iload_n 3, 1) := by decide +kernel
theorem dL_law_312 : decode cL_law 312 = .ok (.iconst 2, 1) := by decide +kernel
theorem dL_law_313 : decode cL_law 313 = .ok (.iadd, 1) := by decide +kernel
theorem dL_law_314 : decode cL_law 314 = .ok (.iaload, 1) := by decide +kernel
theorem dL_law_315 : decode cL_law 315 = .ok (.invokevirtual 36, 3) := by decide +kernel
theorem dL_law_318 : decode cL_law 318 = .ok (.if_icmp .eq 889, 3) := by decide +kernel
theorem dL_law_321 : decode cL_law 321 = .ok (.iconst 0, 1) := by decide +kernel
theorem dL_law_322 : decode cL_law 322 = .ok (.ireturn, 1) := by decide +kernel
theorem dL_law_323 : decode cL_law 323 = .ok (.aload_n 1, 1) := by decide +kernel
theorem dL_law_324 : decode cL_law 324 = .ok (.aload_n 0, 1) := by decide +kernel
theorem dL_law_325 : decode cL_law 325 = .ok (.iload_n 3, 1) := by decide +kernel
theorem dL_law_326 : decode cL_law 326 = .ok (.iconst 1, 1) := by decide +kernel
theorem dL_law_327 : decode cL_law 327 = .ok (.iadd, 1) := by decide +kernel
theorem dL_law_328 : decode cL_law 328 = .ok (.iaload, 1) := by decide +kernel
theorem dL_law_329 : decode cL_law 329 = .ok (.aload_n 0, 1) := by decide +kernel
theorem dL_law_330 : decode cL_law 330 = .ok (.iload_n 3, 1) := by decide +kernel
theorem dL_law_331 : decode cL_law 331 = .ok (.iconst 2, 1) := by decide +kernel
theorem dL_law_332 : decode cL_law 332 = .ok (.iadd, 1) := by decide +kernel
theorem dL_law_333 : decode cL_law 333 = .ok (.iaload, 1) := by decide +kernel
theorem dL_law_334 : decode cL_law 334 = .ok (.aload_n 0, 1) := by decide +kernel
theorem dL_law_335 : decode cL_law 335 = .ok (.iload_n 3, 1) := by decide +kernel
theorem dL_law_336 : decode cL_law 336 = .ok (.iconst 3, 1) := by decide +kernel
theorem dL_law_337 : decode cL_law 337 = .ok (.iadd, 1) := by decide +kernel
theorem dL_law_338 : decode cL_law 338 = .ok (.iaload, 1) := by decide +kernel
theorem dL_law_339 : decode cL_law 339 = .ok (.invokevirtual 37, 3) := by decide +kernel
theorem dL_law_342 : decode cL_law 342 = .ok (.aload_n 2, 1) := by decide +kernel
theorem dL_law_343 : decode cL_law 343 = .ok (.aload_n 0, 1) := by decide +kernel
theorem dL_law_344 : decode cL_law 344 = .ok (.iload_n 3, 1) := by decide +kernel
theorem dL_law_345 : decode cL_law 345 = .ok (.iconst 1, 1) := by decide +kernel
theorem dL_law_346 : decode cL_law 346 = .ok (.iadd, 1) := by decide +kernel
theorem dL_law_347 : decode cL_law 347 = .ok (.iaload, 1) := by decide +kernel
theorem dL_law_348 : decode cL_law 348 = .ok (.aload_n 0, 1) := by decide +kernel
theorem dL_law_349 : decode cL_law 349 = .ok (.iload_n 3, 1) := by decide +kernel
theorem dL_law_350 : decode cL_law 350 = .ok (.iconst 2, 1) := by decide +kernel
theorem dL_law_351 : decode cL_law 351 = .ok (.iadd, 1) := by decide +kernel
theorem dL_law_352 : decode cL_law 352 = .ok (.iaload, 1) := by decide +kernel
theorem dL_law_353 : decode cL_law 353 = .ok (.aload_n 0, 1) := by decide +kernel
theorem dL_law_354 : decode cL_law 354 = .ok (.iload_n 3, 1) := by decide +kernel
theorem dL_law_355 : decode cL_law 355 = .ok (.iconst 3, 1) := by decide +kernel
theorem dL_law_356 : decode cL_law 356 = .ok (.iadd, 1) := by decide +kernel
theorem dL_law_357 : decode cL_law 357 = .ok (.iaload, 1) := by decide +kernel
theorem dL_law_358 : decode cL_law 358 = .ok (.invokevirtual 41, 3) := by decide +kernel
theorem dL_law_361 : decode cL_law 361 = .ok (.if_icmp .eq 846, 3) := by decide +kernel
theorem dL_law_364 : decode cL_law 364 = .ok (.iconst 0, 1) := by decide +kernel
theorem dL_law_365 : decode cL_law 365 = .ok (.ireturn, 1) := by decide +kernel
theorem dL_law_366 : decode cL_law 366 = .ok (.aload_n 1, 1) := by decide +kernel
theorem dL_law_367 : decode cL_law 367 = .ok (.aload_n 0, 1) := by decide +kernel
theorem dL_law_368 : decode cL_law 368 = .ok (.iload_n 3, 1) := by decide +kernel
theorem dL_law_369 : decode cL_law 369 = .ok (.iconst 1, 1) := by decide +kernel
theorem dL_law_370 : decode cL_law 370 = .ok (.iadd, 1) := by decide +kernel
theorem dL_law_371 : decode cL_law 371 = .ok (.iaload, 1) := by decide +kernel
theorem dL_law_372 : decode cL_law 372 = .ok (.invokevirtual 42, 3) := by decide +kernel
theorem dL_law_375 : decode cL_law 375 = .ok (.aload_n 2, 1) := by decide +kernel
theorem dL_law_376 : decode cL_law 376 = .ok (.aload_n 0, 1) := by decide +kernel
theorem dL_law_377 : decode cL_law 377 = .ok (.iload_n 3, 1) := by decide +kernel
theorem dL_law_378 : decode cL_law 378 = .ok (.iconst 1, 1) := by decide +kernel
theorem dL_law_379 : decode cL_law 379 = .ok (.iadd, 1) := by decide +kernel
theorem dL_law_380 : decode cL_law 380 = .ok (.iaload, 1) := by decide +kernel
theorem dL_law_381 : decode cL_law 381 = .ok (.invokevirtual 45, 3) := by decide +kernel
theorem dL_law_384 : decode cL_law 384 = .ok (.if_icmp .eq 823, 3) := by decide +kernel
theorem dL_law_387 : decode cL_law 387 = .ok (.iconst 0, 1) := by decide +kernel
theorem dL_law_388 : decode cL_law 388 = .ok (.ireturn, 1) := by decide +kernel
theorem dL_law_389 : decode cL_law 389 = .ok (.aload_n 1, 1) := by decide +kernel
theorem dL_law_390 : decode cL_law 390 = .ok (.invokevirtual 46, 3) := by decide +kernel
theorem dL_law_393 : decode cL_law 393 = .ok (.aload_n 2, 1) := by decide +kernel
theorem dL_law_394 : decode cL_law 394 = .ok (.invokevirtual 49, 3) := by decide +kernel
theorem dL_law_397 : decode cL_law 397 = .ok (.if_icmp .eq 810, 3) := by decide +kernel
theorem dL_law_400 : decode cL_law 400 = .ok (.iconst 0, 1) := by decide +kernel
theorem dL_law_401 : decode cL_law 401 = .ok (.ireturn, 1) := by decide +kernel
theorem dL_law_402 : decode cL_law 402 = .ok (.aload_n 1, 1) := by decide +kernel
theorem dL_law_403 : decode cL_law 403 = .ok (.aload_n 0, 1) := by decide +kernel
theorem dL_law_404 : decode cL_law 404 = .ok (.iload_n 3, 1) := by decide +kernel
theorem dL_law_405 : decode cL_law 405 = .ok (.iconst 1, 1) := by decide +kernel
theorem dL_law_406 : decode cL_law 406 = .ok (.iadd, 1) := by decide +kernel
theorem dL_law_407 : decode cL_law 407 = .ok (.iaload, 1) := by decide +kernel
theorem dL_law_408 : decode cL_law 408 = .ok (.aload_n 0, 1) := by decide +kernel
theorem dL_law_409 : decode cL_law 409 = .ok (.iload_n 3, 1) := by decide +kernel
theorem dL_law_410 : decode cL_law 410 = .ok (.iconst 2, 1) := by decide +kernel
theorem dL_law_411 : decode cL_law 411 = .ok (.iadd, 1) := by decide +kernel
theorem dL_law_412 : decode cL_law 412 = .ok (.iaload, 1) := by decide +kernel
theorem dL_law_413 : decode cL_law 413 = .ok (.invokevirtual 50, 3) := by decide +kernel
theorem dL_law_416 : decode cL_law 416 = .ok (.aload_n 2, 1) := by decide +kernel
theorem dL_law_417 : decode cL_law 417 = .ok (.aload_n 0, 1) := by decide +kernel
theorem dL_law_418 : decode cL_law 418 = .ok (.iload_n 3, 1) := by decide +kernel
theorem dL_law_419 : decode cL_law 419 = .ok (.iconst 1, 1) := by decide +kernel
theorem dL_law_420 : decode cL_law 420 = .ok (.iadd, 1) := by decide +kernel
theorem dL_law_421 : decode cL_law 421 = .ok (.iaload, 1) := by decide +kernel
theorem dL_law_422 : decode cL_law 422 = .ok (.aload_n 0, 1) := by decide +kernel
theorem dL_law_423 : decode cL_law 423 = .ok (.iload_n 3, 1) := by decide +kernel
theorem dL_law_424 : decode cL_law 424 = .ok (.iconst 2, 1) := by decide +kernel
theorem dL_law_425 : decode cL_law 425 = .ok (.iadd, 1) := by decide +kernel
theorem dL_law_426 : decode cL_law 426 = .ok (.iaload, 1) := by decide +kernel
theorem dL_law_427 : decode cL_law 427 = .ok (.invokevirtual 53, 3) := by decide +kernel
theorem dL_law_430 : decode cL_law 430 = .ok (.if_icmp .eq 777, 3) := by decide +kernel
theorem dL_law_433 : decode cL_law 433 = .ok (.iconst 0, 1) := by decide +kernel
theorem dL_law_434 : decode cL_law 434 = .ok (.ireturn, 1) := by decide +kernel
theorem dL_law_435 : decode cL_law 435 = .ok (.aload_n 1, 1) := by decide +kernel
theorem dL_law_436 : decode cL_law 436 = .ok (.aload_n 0, 1) := by decide +kernel
theorem dL_law_437 : decode cL_law 437 = .ok (.iload_n 3, 1) := by decide +kernel
theorem dL_law_438 : decode cL_law 438 = .ok (.iconst 1, 1) := by decide +kernel
theorem dL_law_439 : decode cL_law 439 = .ok (.iadd, 1) := by decide +kernel
theorem dL_law_440 : decode cL_law 440 = .ok (.iaload, 1) := by decide +kernel
theorem dL_law_441 : decode cL_law 441 = .ok (.aload_n 0, 1) := by decide +kernel
theorem dL_law_442 : decode cL_law 442 = .ok (.iload_n 3, 1) := by decide +kernel
theorem dL_law_443 : decode cL_law 443 = .ok (.iconst 2, 1) := by decide +kernel
theorem dL_law_444 : decode cL_law 444 = .ok (.iadd, 1) := by decide +kernel
theorem dL_law_445 : decode cL_law 445 = .ok (.iaload, 1) := by decide +kernel
theorem dL_law_446 : decode cL_law 446 = .ok (.invokevirtual 54, 3) := by decide +kernel
theorem dL_law_449 : decode cL_law 449 = .ok (.aload_n 2, 1) := by decide +kernel
theorem dL_law_450 : decode cL_law 450 = .ok (.aload_n 0, 1) := by decide +kernel
theorem dL_law_451 : decode cL_law 451 = .ok (.iload_n 3, 1) := by decide +kernel
theorem dL_law_452 : decode cL_law 452 = .ok (.iconst 1, 1) := by decide +kernel
theorem dL_law_453 : decode cL_law 453 = .ok (.iadd, 1) := by decide +kernel
theorem dL_law_454 : decode cL_law 454 = .ok (.iaload, 1) := by decide +kernel
theorem dL_law_455 : decode cL_law 455 = .ok (.aload_n 0, 1) := by decide +kernel
theorem dL_law_456 : decode cL_law 456 = .ok (.iload_n 3, 1) := by decide +kernel
theorem dL_law_457 : decode cL_law 457 = .ok (.iconst 2, 1) := by decide +kernel
theorem dL_law_458 : decode cL_law 458 = .ok (.iadd, 1) := by decide +kernel
theorem dL_law_459 : decode cL_law 459 = .ok (.iaload, 1) := by decide +kernel
theorem dL_law_460 : decode cL_law 460 = .ok (.invokevirtual 57, 3) := by decide +kernel
theorem dL_law_463 : decode cL_law 463 = .ok (.if_icmp .eq 744, 3) := by decide +kernel
theorem dL_law_466 : decode cL_law 466 = .ok (.iconst 0, 1) := by decide +kernel
theorem dL_law_467 : decode cL_law 467 = .ok (.ireturn, 1) := by decide +kernel
theorem dL_law_468 : decode cL_law 468 = .ok (.aload_n 1, 1) := by decide +kernel
theorem dL_law_469 : decode cL_law 469 = .ok (.aload_n 0, 1) := by decide +kernel
theorem dL_law_470 : decode cL_law 470 = .ok (.iload_n 3, 1) := by decide +kernel
theorem dL_law_471 : decode cL_law 471 = .ok (.iconst 1, 1) := by decide +kernel
theorem dL_law_472 : decode cL_law 472 = .ok (.iadd, 1) := by decide +kernel
theorem dL_law_473 : decode cL_law 473 = .ok (.iaload, 1) := by decide +kernel
theorem dL_law_474 : decode cL_law 474 = .ok (.aload_n 0, 1) := by decide +kernel
theorem dL_law_475 : decode cL_law 475 = .ok (.iload_n 3, 1) := by decide +kernel
theorem dL_law_476 : decode cL_law 476 = .ok (.iconst 2, 1) := by decide +kernel
theorem dL_law_477 : decode cL_law 477 = .ok (.iadd, 1) := by decide +kernel
theorem dL_law_478 : decode cL_law 478 = .ok (.iaload, 1) := by decide +kernel
theorem dL_law_479 : decode cL_law 479 = .ok (.aload_n 0, 1) := by decide +kernel
theorem dL_law_480 : decode cL_law 480 = .ok (.iload_n 3, 1) := by decide +kernel
theorem dL_law_481 : decode cL_law 481 = .ok (.iconst 3, 1) := by decide +kernel
theorem dL_law_482 : decode cL_law 482 = .ok (.iadd, 1) := by decide +kernel
theorem dL_law_483 : decode cL_law 483 = .ok (.iaload, 1) := by decide +kernel
theorem dL_law_484 : decode cL_law 484 = .ok (.invokevirtual 58, 3) := by decide +kernel
theorem dL_law_487 : decode cL_law 487 = .ok (.aload_n 2, 1) := by decide +kernel
theorem dL_law_488 : decode cL_law 488 = .ok (.aload_n 0, 1) := by decide +kernel
theorem dL_law_489 : decode cL_law 489 = .ok (.iload_n 3, 1) := by decide +kernel
theorem dL_law_490 : decode cL_law 490 = .ok (.iconst 1, 1) := by decide +kernel
theorem dL_law_491 : decode cL_law 491 = .ok (.iadd, 1) := by decide +kernel
theorem dL_law_492 : decode cL_law 492 = .ok (.iaload, 1) := by decide +kernel
theorem dL_law_493 : decode cL_law 493 = .ok (.aload_n 0, 1) := by decide +kernel
theorem dL_law_494 : decode cL_law 494 = .ok (.iload_n 3, 1) := by decide +kernel
theorem dL_law_495 : decode cL_law 495 = .ok (.iconst 2, 1) := by decide +kernel
theorem dL_law_496 : decode cL_law 496 = .ok (.iadd, 1) := by decide +kernel
theorem dL_law_497 : decode cL_law 497 = .ok (.iaload, 1) := by decide +kernel
theorem dL_law_498 : decode cL_law 498 = .ok (.aload_n 0, 1) := by decide +kernel
theorem dL_law_499 : decode cL_law 499 = .ok (.iload_n 3, 1) := by decide +kernel
theorem dL_law_500 : decode cL_law 500 = .ok (.iconst 3, 1) := by decide +kernel
theorem dL_law_501 : decode cL_law 501 = .ok (.iadd, 1) := by decide +kernel
theorem dL_law_502 : decode cL_law 502 = .ok (.iaload, 1) := by decide +kernel
theorem dL_law_503 : decode cL_law 503 = .ok (.invokevirtual 61, 3) := by decide +kernel
theorem dL_law_506 : decode cL_law 506 = .ok (.if_icmp .eq 701, 3) := by decide +kernel
theorem dL_law_509 : decode cL_law 509 = .ok (.iconst 0, 1) := by decide +kernel
theorem dL_law_510 : decode cL_law 510 = .ok (.ireturn, 1) := by decide +kernel
theorem dL_law_511 : decode cL_law 511 = .ok (.aload_n 1, 1) := by decide +kernel
theorem dL_law_512 : decode cL_law 512 = .ok (.aload_n 0, 1) := by decide +kernel
theorem dL_law_513 : decode cL_law 513 = .ok (.iload_n 3, 1) := by decide +kernel
theorem dL_law_514 : decode cL_law 514 = .ok (.iconst 1, 1) := by decide +kernel
theorem dL_law_515 : decode cL_law 515 = .ok (.iadd, 1) := by decide +kernel
theorem dL_law_516 : decode cL_law 516 = .ok (.iaload, 1) := by decide +kernel
theorem dL_law_517 : decode cL_law 517 = .ok (.aload_n 0, 1) := by decide +kernel
theorem dL_law_518 : decode cL_law 518 = .ok (.iload_n 3, 1) := by decide +kernel
theorem dL_law_519 : decode cL_law 519 = .ok (.iconst 2, 1) := by decide +kernel
theorem dL_law_520 : decode cL_law 520 = .ok (.iadd, 1) := by decide +kernel
theorem dL_law_521 : decode cL_law 521 = .ok (.iaload, 1) := by decide +kernel
theorem dL_law_522 : decode cL_law 522 = .ok (.aload_n 0, 1) := by decide +kernel
theorem dL_law_523 : decode cL_law 523 = .ok (.iload_n 3, 1) := by decide +kernel
theorem dL_law_524 : decode cL_law 524 = .ok (.iconst 3, 1) := by decide +kernel
theorem dL_law_525 : decode cL_law 525 = .ok (.iadd, 1) := by decide +kernel
theorem dL_law_526 : decode cL_law 526 = .ok (.iaload, 1) := by decide +kernel
theorem dL_law_527 : decode cL_law 527 = .ok (.invokevirtual 62, 3) := by decide +kernel
theorem dL_law_530 : decode cL_law 530 = .ok (.aload_n 2, 1) := by decide +kernel
theorem dL_law_531 : decode cL_law 531 = .ok (.aload_n 0, 1) := by decide +kernel
theorem dL_law_532 : decode cL_law 532 = .ok (.iload_n 3, 1) := by decide +kernel
theorem dL_law_533 : decode cL_law 533 = .ok (.iconst 1, 1) := by decide +kernel
theorem dL_law_534 : decode cL_law 534 = .ok (.iadd, 1) := by decide +kernel
theorem dL_law_535 : decode cL_law 535 = .ok (.iaload, 1) := by decide +kernel
theorem dL_law_536 : decode cL_law 536 = .ok (.aload_n 0, 1) := by decide +kernel
theorem dL_law_537 : decode cL_law 537 = .ok (.iload_n 3, 1) := by decide +kernel
theorem dL_law_538 : decode cL_law 538 = .ok (.iconst 2, 1) := by decide +kernel
theorem dL_law_539 : decode cL_law 539 = .ok (.iadd, 1) := by decide +kernel
theorem dL_law_540 : decode cL_law 540 = .ok (.iaload, 1) := by decide +kernel
theorem dL_law_541 : decode cL_law 541 = .ok (.aload_n 0, 1) := by decide +kernel
theorem dL_law_542 : decode cL_law 542 = .ok (.iload_n 3, 1) := by decide +kernel
theorem dL_law_543 : decode cL_law 543 = .ok (.iconst 3, 1) := by decide +kernel
theorem dL_law_544 : decode cL_law 544 = .ok (.iadd, 1) := by decide +kernel
theorem dL_law_545 : decode cL_law 545 = .ok (.iaload, 1) := by decide +kernel
theorem dL_law_546 : decode cL_law 546 = .ok (.invokevirtual 65, 3) := by decide +kernel
theorem dL_law_549 : decode cL_law 549 = .ok (.if_icmp .eq 658, 3) := by decide +kernel
theorem dL_law_552 : decode cL_law 552 = .ok (.iconst 0, 1) := by decide +kernel
theorem dL_law_553 : decode cL_law 553 = .ok (.ireturn, 1) := by decide +kernel
theorem dL_law_554 : decode cL_law 554 = .ok (.aload_n 1, 1) := by decide +kernel
theorem dL_law_555 : decode cL_law 555 = .ok (.aload_n 0, 1) := by decide +kernel
theorem dL_law_556 : decode cL_law 556 = .ok (.iload_n 3, 1) := by decide +kernel
theorem dL_law_557 : decode cL_law 557 = .ok (.iconst 1, 1) := by decide +kernel
theorem dL_law_558 : decode cL_law 558 = .ok (.iadd, 1) := by decide +kernel
theorem dL_law_559 : decode cL_law 559 = .ok (.iaload, 1) := by decide +kernel
theorem dL_law_560 : decode cL_law 560 = .ok (.aload_n 0, 1) := by decide +kernel
theorem dL_law_561 : decode cL_law 561 = .ok (.iload_n 3, 1) := by decide +kernel
theorem dL_law_562 : decode cL_law 562 = .ok (.iconst 2, 1) := by decide +kernel
theorem dL_law_563 : decode cL_law 563 = .ok (.iadd, 1) := by decide +kernel
theorem dL_law_564 : decode cL_law 564 = .ok (.iaload, 1) := by decide +kernel
theorem dL_law_565 : decode cL_law 565 = .ok (.aload_n 0, 1) := by decide +kernel
theorem dL_law_566 : decode cL_law 566 = .ok (.iload_n 3, 1) := by decide +kernel
theorem dL_law_567 : decode cL_law 567 = .ok (.iconst 3, 1) := by decide +kernel
theorem dL_law_568 : decode cL_law 568 = .ok (.iadd, 1) := by decide +kernel
theorem dL_law_569 : decode cL_law 569 = .ok (.iaload, 1) := by decide +kernel
theorem dL_law_570 : decode cL_law 570 = .ok (.invokevirtual 66, 3) := by decide +kernel
theorem dL_law_573 : decode cL_law 573 = .ok (.aload_n 2, 1) := by decide +kernel
theorem dL_law_574 : decode cL_law 574 = .ok (.aload_n 0, 1) := by decide +kernel
theorem dL_law_575 : decode cL_law 575 = .ok (.iload_n 3, 1) := by decide +kernel
theorem dL_law_576 : decode cL_law 576 = .ok (.iconst 1, 1) := by decide +kernel
theorem dL_law_577 : decode cL_law 577 = .ok (.iadd, 1) := by decide +kernel
theorem dL_law_578 : decode cL_law 578 = .ok (.iaload, 1) := by decide +kernel
theorem dL_law_579 : decode cL_law 579 = .ok (.aload_n 0, 1) := by decide +kernel
theorem dL_law_580 : decode cL_law 580 = .ok (.iload_n 3, 1) := by decide +kernel
theorem dL_law_581 : decode cL_law 581 = .ok (.iconst 2, 1) := by decide +kernel
theorem dL_law_582 : decode cL_law 582 = .ok (.iadd, 1) := by decide +kernel
theorem dL_law_583 : decode cL_law 583 = .ok (.iaload, 1) := by decide +kernel
theorem dL_law_584 : decode cL_law 584 = .ok (.aload_n 0, 1) := by decide +kernel
theorem dL_law_585 : decode cL_law 585 = .ok (.iload_n 3, 1) := by decide +kernel
theorem dL_law_586 : decode cL_law 586 = .ok (.iconst 3, 1) := by decide +kernel
theorem dL_law_587 : decode cL_law 587 = .ok (.iadd, 1) := by decide +kernel
theorem dL_law_588 : decode cL_law 588 = .ok (.iaload, 1) := by decide +kernel
theorem dL_law_589 : decode cL_law 589 = .ok (.invokevirtual 69, 3) := by decide +kernel
theorem dL_law_592 : decode cL_law 592 = .ok (.if_icmp .eq 615, 3) := by decide +kernel
theorem dL_law_595 : decode cL_law 595 = .ok (.iconst 0, 1) := by decide +kernel
theorem dL_law_596 : decode cL_law 596 = .ok (.ireturn, 1) := by decide +kernel
theorem dL_law_597 : decode cL_law 597 = .ok (.aload_n 1, 1) := by decide +kernel
theorem dL_law_598 : decode cL_law 598 = .ok (.aload_n 0, 1) := by decide +kernel
theorem dL_law_599 : decode cL_law 599 = .ok (.iload_n 3, 1) := by decide +kernel
theorem dL_law_600 : decode cL_law 600 = .ok (.iconst 1, 1) := by decide +kernel
theorem dL_law_601 : decode cL_law 601 = .ok (.iadd, 1) := by decide +kernel
theorem dL_law_602 : decode cL_law 602 = .ok (.iaload, 1) := by decide +kernel
theorem dL_law_603 : decode cL_law 603 = .ok (.aload_n 0, 1) := by decide +kernel
theorem dL_law_604 : decode cL_law 604 = .ok (.iload_n 3, 1) := by decide +kernel
theorem dL_law_605 : decode cL_law 605 = .ok (.iconst 2, 1) := by decide +kernel
theorem dL_law_606 : decode cL_law 606 = .ok (.iadd, 1) := by decide +kernel
theorem dL_law_607 : decode cL_law 607 = .ok (.iaload, 1) := by decide +kernel
theorem dL_law_608 : decode cL_law 608 = .ok (.ifCond .eq 7, 3) := by decide +kernel
theorem dL_law_611 : decode cL_law 611 = .ok (.iconst 1, 1) := by decide +kernel
theorem dL_law_612 : decode cL_law 612 = .ok (.goto 4, 3) := by decide +kernel
theorem dL_law_615 : decode cL_law 615 = .ok (.iconst 0, 1) := by decide +kernel
theorem dL_law_616 : decode cL_law 616 = .ok (.invokevirtual 70, 3) := by decide +kernel
theorem dL_law_619 : decode cL_law 619 = .ok (.aload_n 2, 1) := by decide +kernel
theorem dL_law_620 : decode cL_law 620 = .ok (.aload_n 0, 1) := by decide +kernel
theorem dL_law_621 : decode cL_law 621 = .ok (.iload_n 3, 1) := by decide +kernel
theorem dL_law_622 : decode cL_law 622 = .ok (.iconst 1, 1) := by decide +kernel
theorem dL_law_623 : decode cL_law 623 = .ok (.iadd, 1) := by decide +kernel
theorem dL_law_624 : decode cL_law 624 = .ok (.iaload, 1) := by decide +kernel
theorem dL_law_625 : decode cL_law 625 = .ok (.aload_n 0, 1) := by decide +kernel
theorem dL_law_626 : decode cL_law 626 = .ok (.iload_n 3, 1) := by decide +kernel
theorem dL_law_627 : decode cL_law 627 = .ok (.iconst 2, 1) := by decide +kernel
theorem dL_law_628 : decode cL_law 628 = .ok (.iadd, 1) := by decide +kernel
theorem dL_law_629 : decode cL_law 629 = .ok (.iaload, 1) := by decide +kernel
theorem dL_law_630 : decode cL_law 630 = .ok (.ifCond .eq 7, 3) := by decide +kernel
theorem dL_law_633 : decode cL_law 633 = .ok (.iconst 1, 1) := by decide +kernel
theorem dL_law_634 : decode cL_law 634 = .ok (.goto 4, 3) := by decide +kernel
theorem dL_law_637 : decode cL_law 637 = .ok (.iconst 0, 1) := by decide +kernel
theorem dL_law_638 : decode cL_law 638 = .ok (.invokevirtual 74, 3) := by decide +kernel
theorem dL_law_641 : decode cL_law 641 = .ok (.if_icmp .eq 566, 3) := by decide +kernel
theorem dL_law_644 : decode cL_law 644 = .ok (.iconst 0, 1) := by decide +kernel
theorem dL_law_645 : decode cL_law 645 = .ok (.ireturn, 1) := by decide +kernel
theorem dL_law_646 : decode cL_law 646 = .ok (.aload_n 1, 1) := by decide +kernel
theorem dL_law_647 : decode cL_law 647 = .ok (.aload_n 0, 1) := by decide +kernel
theorem dL_law_648 : decode cL_law 648 = .ok (.iload_n 3, 1) := by decide +kernel
theorem dL_law_649 : decode cL_law 649 = .ok (.iconst 1, 1) := by decide +kernel
theorem dL_law_650 : decode cL_law 650 = .ok (.iadd, 1) := by decide +kernel
theorem dL_law_651 : decode cL_law 651 = .ok (.iaload, 1) := by decide +kernel
theorem dL_law_652 : decode cL_law 652 = .ok (.aload_n 0, 1) := by decide +kernel
theorem dL_law_653 : decode cL_law 653 = .ok (.iload_n 3, 1) := by decide +kernel
theorem dL_law_654 : decode cL_law 654 = .ok (.iconst 2, 1) := by decide +kernel
theorem dL_law_655 : decode cL_law 655 = .ok (.iadd, 1) := by decide +kernel
theorem dL_law_656 : decode cL_law 656 = .ok (.iaload, 1) := by decide +kernel
theorem dL_law_657 : decode cL_law 657 = .ok (.invokevirtual 75, 3) := by decide +kernel
theorem dL_law_660 : decode cL_law 660 = .ok (.aload_n 2, 1) := by decide +kernel
theorem dL_law_661 : decode cL_law 661 = .ok (.aload_n 0, 1) := by decide +kernel
theorem dL_law_662 : decode cL_law 662 = .ok (.iload_n 3, 1) := by decide +kernel
theorem dL_law_663 : decode cL_law 663 = .ok (.iconst 1, 1) := by decide +kernel
theorem dL_law_664 : decode cL_law 664 = .ok (.iadd, 1) := by decide +kernel
theorem dL_law_665 : decode cL_law 665 = .ok (.iaload, 1) := by decide +kernel
theorem dL_law_666 : decode cL_law 666 = .ok (.aload_n 0, 1) := by decide +kernel
theorem dL_law_667 : decode cL_law 667 = .ok (.iload_n 3, 1) := by decide +kernel
theorem dL_law_668 : decode cL_law 668 = .ok (.iconst 2, 1) := by decide +kernel
theorem dL_law_669 : decode cL_law 669 = .ok (.iadd, 1) := by decide +kernel
theorem dL_law_670 : decode cL_law 670 = .ok (.iaload, 1) := by decide +kernel
theorem dL_law_671 : decode cL_law 671 = .ok (.invokevirtual 78, 3) := by decide +kernel
theorem dL_law_674 : decode cL_law 674 = .ok (.if_icmp .eq 533, 3) := by decide +kernel
theorem dL_law_677 : decode cL_law 677 = .ok (.iconst 0, 1) := by decide +kernel
theorem dL_law_678 : decode cL_law 678 = .ok (.ireturn, 1) := by decide +kernel
theorem dL_law_679 : decode cL_law 679 = .ok (.aload_n 1, 1) := by decide +kernel
theorem dL_law_680 : decode cL_law 680 = .ok (.aload_n 0, 1) := by decide +kernel
theorem dL_law_681 : decode cL_law 681 = .ok (.iload_n 3, 1) := by decide +kernel
theorem dL_law_682 : decode cL_law 682 = .ok (.iconst 1, 1) := by decide +kernel
theorem dL_law_683 : decode cL_law 683 = .ok (.iadd, 1) := by decide +kernel
theorem dL_law_684 : decode cL_law 684 = .ok (.iaload, 1) := by decide +kernel
theorem dL_law_685 : decode cL_law 685 = .ok (.aload_n 0, 1) := by decide +kernel
theorem dL_law_686 : decode cL_law 686 = .ok (.iload_n 3, 1) := by decide +kernel
theorem dL_law_687 : decode cL_law 687 = .ok (.iconst 2, 1) := by decide +kernel
theorem dL_law_688 : decode cL_law 688 = .ok (.iadd, 1) := by decide +kernel
theorem dL_law_689 : decode cL_law 689 = .ok (.iaload, 1) := by decide +kernel
theorem dL_law_690 : decode cL_law 690 = .ok (.invokevirtual 79, 3) := by decide +kernel
theorem dL_law_693 : decode cL_law 693 = .ok (.aload_n 2, 1) := by decide +kernel
theorem dL_law_694 : decode cL_law 694 = .ok (.aload_n 0, 1) := by decide +kernel
theorem dL_law_695 : decode cL_law 695 = .ok (.iload_n 3, 1) := by decide +kernel
theorem dL_law_696 : decode cL_law 696 = .ok (.iconst 1, 1) := by decide +kernel
theorem dL_law_697 : decode cL_law 697 = .ok (.iadd, 1) := by decide +kernel
theorem dL_law_698 : decode cL_law 698 = .ok (.iaload, 1) := by decide +kernel
theorem dL_law_699 : decode cL_law 699 = .ok (.aload_n 0, 1) := by decide +kernel
theorem dL_law_700 : decode cL_law 700 = .ok (.iload_n 3, 1) := by decide +kernel
theorem dL_law_701 : decode cL_law 701 = .ok (.iconst 2, 1) := by decide +kernel
theorem dL_law_702 : decode cL_law 702 = .ok (.iadd, 1) := by decide +kernel
theorem dL_law_703 : decode cL_law 703 = .ok (.iaload, 1) := by decide +kernel
theorem dL_law_704 : decode cL_law 704 = .ok (.invokevirtual 83, 3) := by decide +kernel
theorem dL_law_707 : decode cL_law 707 = .ok (.lcmp, 1) := by decide +kernel
theorem dL_law_708 : decode cL_law 708 = .ok (.ifCond .eq 499, 3) := by decide +kernel
theorem dL_law_711 : decode cL_law 711 = .ok (.iconst 0, 1) := by decide +kernel
theorem dL_law_712 : decode cL_law 712 = .ok (.ireturn, 1) := by decide +kernel
theorem dL_law_713 : decode cL_law 713 = .ok (.aload_n 1, 1) := by decide +kernel
theorem dL_law_714 : decode cL_law 714 = .ok (.aload_n 0, 1) := by decide +kernel
theorem dL_law_715 : decode cL_law 715 = .ok (.iload_n 3, 1) := by decide +kernel
theorem dL_law_716 : decode cL_law 716 = .ok (.iconst 1, 1) := by decide +kernel
theorem dL_law_717 : decode cL_law 717 = .ok (.iadd, 1) := by decide +kernel
theorem dL_law_718 : decode cL_law 718 = .ok (.iaload, 1) := by decide +kernel
theorem dL_law_719 : decode cL_law 719 = .ok (.aload_n 0, 1) := by decide +kernel
theorem dL_law_720 : decode cL_law 720 = .ok (.iload_n 3, 1) := by decide +kernel
theorem dL_law_721 : decode cL_law 721 = .ok (.iconst 2, 1) := by decide +kernel
theorem dL_law_722 : decode cL_law 722 = .ok (.iadd, 1) := by decide +kernel
theorem dL_law_723 : decode cL_law 723 = .ok (.iaload, 1) := by decide +kernel
theorem dL_law_724 : decode cL_law 724 = .ok (.aload_n 0, 1) := by decide +kernel
theorem dL_law_725 : decode cL_law 725 = .ok (.iload_n 3, 1) := by decide +kernel
theorem dL_law_726 : decode cL_law 726 = .ok (.iconst 3, 1) := by decide +kernel
theorem dL_law_727 : decode cL_law 727 = .ok (.iadd, 1) := by decide +kernel
theorem dL_law_728 : decode cL_law 728 = .ok (.iaload, 1) := by decide +kernel
theorem dL_law_729 : decode cL_law 729 = .ok (.invokevirtual 84, 3) := by decide +kernel
theorem dL_law_732 : decode cL_law 732 = .ok (.aload_n 2, 1) := by decide +kernel
theorem dL_law_733 : decode cL_law 733 = .ok (.aload_n 0, 1) := by decide +kernel
theorem dL_law_734 : decode cL_law 734 = .ok (.iload_n 3, 1) := by decide +kernel
theorem dL_law_735 : decode cL_law 735 = .ok (.iconst 1, 1) := by decide +kernel
theorem dL_law_736 : decode cL_law 736 = .ok (.iadd, 1) := by decide +kernel
theorem dL_law_737 : decode cL_law 737 = .ok (.iaload, 1) := by decide +kernel
theorem dL_law_738 : decode cL_law 738 = .ok (.aload_n 0, 1) := by decide +kernel
theorem dL_law_739 : decode cL_law 739 = .ok (.iload_n 3, 1) := by decide +kernel
theorem dL_law_740 : decode cL_law 740 = .ok (.iconst 2, 1) := by decide +kernel
theorem dL_law_741 : decode cL_law 741 = .ok (.iadd, 1) := by decide +kernel
theorem dL_law_742 : decode cL_law 742 = .ok (.iaload, 1) := by decide +kernel
theorem dL_law_743 : decode cL_law 743 = .ok (.aload_n 0, 1) := by decide +kernel
theorem dL_law_744 : decode cL_law 744 = .ok (.iload_n 3, 1) := by decide +kernel
theorem dL_law_745 : decode cL_law 745 = .ok (.iconst 3, 1) := by decide +kernel
theorem dL_law_746 : decode cL_law 746 = .ok (.iadd, 1) := by decide +kernel
theorem dL_law_747 : decode cL_law 747 = .ok (.iaload, 1) := by decide +kernel
theorem dL_law_748 : decode cL_law 748 = .ok (.invokevirtual 88, 3) := by decide +kernel
theorem dL_law_751 : decode cL_law 751 = .ok (.lcmp, 1) := by decide +kernel
theorem dL_law_752 : decode cL_law 752 = .ok (.ifCond .eq 455, 3) := by decide +kernel
theorem dL_law_755 : decode cL_law 755 = .ok (.iconst 0, 1) := by decide +kernel
theorem dL_law_756 : decode cL_law 756 = .ok (.ireturn, 1) := by decide +kernel
theorem dL_law_757 : decode cL_law 757 = .ok (.aload_n 1, 1) := by decide +kernel
theorem dL_law_758 : decode cL_law 758 = .ok (.aload_n 0, 1) := by decide +kernel
theorem dL_law_759 : decode cL_law 759 = .ok (.iload_n 3, 1) := by decide +kernel
theorem dL_law_760 : decode cL_law 760 = .ok (.iconst 1, 1) := by decide +kernel
theorem dL_law_761 : decode cL_law 761 = .ok (.iadd, 1) := by decide +kernel
theorem dL_law_762 : decode cL_law 762 = .ok (.iaload, 1) := by decide +kernel
theorem dL_law_763 : decode cL_law 763 = .ok (.aload_n 0, 1) := by decide +kernel
theorem dL_law_764 : decode cL_law 764 = .ok (.iload_n 3, 1) := by decide +kernel
theorem dL_law_765 : decode cL_law 765 = .ok (.iconst 2, 1) := by decide +kernel
theorem dL_law_766 : decode cL_law 766 = .ok (.iadd, 1) := by decide +kernel
theorem dL_law_767 : decode cL_law 767 = .ok (.iaload, 1) := by decide +kernel
theorem dL_law_768 : decode cL_law 768 = .ok (.invokevirtual 89, 3) := by decide +kernel
theorem dL_law_771 : decode cL_law 771 = .ok (.aload_n 2, 1) := by decide +kernel
theorem dL_law_772 : decode cL_law 772 = .ok (.aload_n 0, 1) := by decide +kernel
theorem dL_law_773 : decode cL_law 773 = .ok (.iload_n 3, 1) := by decide +kernel
theorem dL_law_774 : decode cL_law 774 = .ok (.iconst 1, 1) := by decide +kernel
theorem dL_law_775 : decode cL_law 775 = .ok (.iadd, 1) := by decide +kernel
theorem dL_law_776 : decode cL_law 776 = .ok (.iaload, 1) := by decide +kernel
theorem dL_law_777 : decode cL_law 777 = .ok (.aload_n 0, 1) := by decide +kernel
theorem dL_law_778 : decode cL_law 778 = .ok (.iload_n 3, 1) := by decide +kernel
theorem dL_law_779 : decode cL_law 779 = .ok (.iconst 2, 1) := by decide +kernel
theorem dL_law_780 : decode cL_law 780 = .ok (.iadd, 1) := by decide +kernel
theorem dL_law_781 : decode cL_law 781 = .ok (.iaload, 1) := by decide +kernel
theorem dL_law_782 : decode cL_law 782 = .ok (.invokevirtual 92, 3) := by decide +kernel
theorem dL_law_785 : decode cL_law 785 = .ok (.if_icmp .eq 422, 3) := by decide +kernel
theorem dL_law_788 : decode cL_law 788 = .ok (.iconst 0, 1) := by decide +kernel
theorem dL_law_789 : decode cL_law 789 = .ok (.ireturn, 1) := by decide +kernel
theorem dL_law_790 : decode cL_law 790 = .ok (.aload_n 1, 1) := by decide +kernel
theorem dL_law_791 : decode cL_law 791 = .ok (.aload_n 0, 1) := by decide +kernel
theorem dL_law_792 : decode cL_law 792 = .ok (.iload_n 3, 1) := by decide +kernel
theorem dL_law_793 : decode cL_law 793 = .ok (.iconst 1, 1) := by decide +kernel
theorem dL_law_794 : decode cL_law 794 = .ok (.iadd, 1) := by decide +kernel
theorem dL_law_795 : decode cL_law 795 = .ok (.iaload, 1) := by decide +kernel
theorem dL_law_796 : decode cL_law 796 = .ok (.aload_n 0, 1) := by decide +kernel
theorem dL_law_797 : decode cL_law 797 = .ok (.iload_n 3, 1) := by decide +kernel
theorem dL_law_798 : decode cL_law 798 = .ok (.iconst 2, 1) := by decide +kernel
theorem dL_law_799 : decode cL_law 799 = .ok (.iadd, 1) := by decide +kernel
theorem dL_law_800 : decode cL_law 800 = .ok (.iaload, 1) := by decide +kernel
theorem dL_law_801 : decode cL_law 801 = .ok (.invokevirtual 93, 3) := by decide +kernel
theorem dL_law_804 : decode cL_law 804 = .ok (.aload_n 2, 1) := by decide +kernel
theorem dL_law_805 : decode cL_law 805 = .ok (.aload_n 0, 1) := by decide +kernel
theorem dL_law_806 : decode cL_law 806 = .ok (.iload_n 3, 1) := by decide +kernel
theorem dL_law_807 : decode cL_law 807 = .ok (.iconst 1, 1) := by decide +kernel
theorem dL_law_808 : decode cL_law 808 = .ok (.iadd, 1) := by decide +kernel
theorem dL_law_809 : decode cL_law 809 = .ok (.iaload, 1) := by decide +kernel
theorem dL_law_810 : decode cL_law 810 = .ok (.aload_n 0, 1) := by decide +kernel
theorem dL_law_811 : decode cL_law 811 = .ok (.iload_n 3, 1) := by decide +kernel
theorem dL_law_812 : decode cL_law 812 = .ok (.iconst 2, 1) := by decide +kernel
theorem dL_law_813 : decode cL_law 813 = .ok (.iadd, 1) := by decide +kernel
theorem dL_law_814 : decode cL_law 814 = .ok (.iaload, 1) := by decide +kernel
theorem dL_law_815 : decode cL_law 815 = .ok (.invokevirtual 96, 3) := by decide +kernel
theorem dL_law_818 : decode cL_law 818 = .ok (.if_icmp .eq 389, 3) := by decide +kernel
theorem dL_law_821 : decode cL_law 821 = .ok (.iconst 0, 1) := by decide +kernel
theorem dL_law_822 : decode cL_law 822 = .ok (.ireturn, 1) := by decide +kernel
theorem dL_law_823 : decode cL_law 823 = .ok (.aload_n 1, 1) := by decide +kernel
theorem dL_law_824 : decode cL_law 824 = .ok (.aload_n 0, 1) := by decide +kernel
theorem dL_law_825 : decode cL_law 825 = .ok (.iload_n 3, 1) := by decide +kernel
theorem dL_law_826 : decode cL_law 826 = .ok (.iconst 1, 1) := by decide +kernel
theorem dL_law_827 : decode cL_law 827 = .ok (.iadd, 1) := by decide +kernel
theorem dL_law_828 : decode cL_law 828 = .ok (.iaload, 1) := by decide +kernel
theorem dL_law_829 : decode cL_law 829 = .ok (.aload_n 0, 1) := by decide +kernel
theorem dL_law_830 : decode cL_law 830 = .ok (.iload_n 3, 1) := by decide +kernel
theorem dL_law_831 : decode cL_law 831 = .ok (.iconst 2, 1) := by decide +kernel
theorem dL_law_832 : decode cL_law 832 = .ok (.iadd, 1) := by decide +kernel
theorem dL_law_833 : decode cL_law 833 = .ok (.iaload, 1) := by decide +kernel
theorem dL_law_834 : decode cL_law 834 = .ok (.invokevirtual 97, 3) := by decide +kernel
theorem dL_law_837 : decode cL_law 837 = .ok (.aload_n 2, 1) := by decide +kernel
theorem dL_law_838 : decode cL_law 838 = .ok (.aload_n 0, 1) := by decide +kernel
theorem dL_law_839 : decode cL_law 839 = .ok (.iload_n 3, 1) := by decide +kernel
theorem dL_law_840 : decode cL_law 840 = .ok (.iconst 1, 1) := by decide +kernel
theorem dL_law_841 : decode cL_law 841 = .ok (.iadd, 1) := by decide +kernel
theorem dL_law_842 : decode cL_law 842 = .ok (.iaload, 1) := by decide +kernel
theorem dL_law_843 : decode cL_law 843 = .ok (.aload_n 0, 1) := by decide +kernel
theorem dL_law_844 : decode cL_law 844 = .ok (.iload_n 3, 1) := by decide +kernel
theorem dL_law_845 : decode cL_law 845 = .ok (.iconst 2, 1) := by decide +kernel
theorem dL_law_846 : decode cL_law 846 = .ok (.iadd, 1) := by decide +kernel
theorem dL_law_847 : decode cL_law 847 = .ok (.iaload, 1) := by decide +kernel
theorem dL_law_848 : decode cL_law 848 = .ok (.invokevirtual 100, 3) := by decide +kernel
theorem dL_law_851 : decode cL_law 851 = .ok (.if_icmp .eq 356, 3) := by decide +kernel
theorem dL_law_854 : decode cL_law 854 = .ok (.iconst 0, 1) := by decide +kernel
theorem dL_law_855 : decode cL_law 855 = .ok (.ireturn, 1) := by decide +kernel
theorem dL_law_856 : decode cL_law 856 = .ok (.aload_n 1, 1) := by decide +kernel
theorem dL_law_857 : decode cL_law 857 = .ok (.invokevirtual 101, 3) := by decide +kernel
theorem dL_law_860 : decode cL_law 860 = .ok (.aload_n 2, 1) := by decide +kernel
theorem dL_law_861 : decode cL_law 861 = .ok (.invokevirtual 104, 3) := by decide +kernel
theorem dL_law_864 : decode cL_law 864 = .ok (.if_icmp .eq 343, 3) := by decide +kernel
theorem dL_law_867 : decode cL_law 867 = .ok (.iconst 0, 1) := by decide +kernel
theorem dL_law_868 : decode cL_law 868 = .ok (.ireturn, 1) := by decide +kernel
theorem dL_law_869 : decode cL_law 869 = .ok (.aload_n 1, 1) := by decide +kernel
theorem dL_law_870 : decode cL_law 870 = .ok (.aload_n 0, 1) := by decide +kernel
theorem dL_law_871 : decode cL_law 871 = .ok (.iload_n 3, 1) := by decide +kernel
theorem dL_law_872 : decode cL_law 872 = .ok (.iconst 1, 1) := by decide +kernel
theorem dL_law_873 : decode cL_law 873 = .ok (.iadd, 1) := by decide +kernel
theorem dL_law_874 : decode cL_law 874 = .ok (.iaload, 1) := by decide +kernel
theorem dL_law_875 : decode cL_law 875 = .ok (.aload_n 0, 1) := by decide +kernel
theorem dL_law_876 : decode cL_law 876 = .ok (.iload_n 3, 1) := by decide +kernel
theorem dL_law_877 : decode cL_law 877 = .ok (.iconst 2, 1) := by decide +kernel
theorem dL_law_878 : decode cL_law 878 = .ok (.iadd, 1) := by decide +kernel
theorem dL_law_879 : decode cL_law 879 = .ok (.iaload, 1) := by decide +kernel
theorem dL_law_880 : decode cL_law 880 = .ok (.aload_n 0, 1) := by decide +kernel
theorem dL_law_881 : decode cL_law 881 = .ok (.iload_n 3, 1) := by decide +kernel
theorem dL_law_882 : decode cL_law 882 = .ok (.iconst 3, 1) := by decide +kernel
theorem dL_law_883 : decode cL_law 883 = .ok (.iadd, 1) := by decide +kernel
theorem dL_law_884 : decode cL_law 884 = .ok (.iaload, 1) := by decide +kernel
theorem dL_law_885 : decode cL_law 885 = .ok (.invokevirtual 105, 3) := by decide +kernel
theorem dL_law_888 : decode cL_law 888 = .ok (.aload_n 2, 1) := by decide +kernel
theorem dL_law_889 : decode cL_law 889 = .ok (.aload_n 0, 1) := by decide +kernel
theorem dL_law_890 : decode cL_law 890 = .ok (.iload_n 3, 1) := by decide +kernel
theorem dL_law_891 : decode cL_law 891 = .ok (.iconst 1, 1) := by decide +kernel
theorem dL_law_892 : decode cL_law 892 = .ok (.iadd, 1) := by decide +kernel
theorem dL_law_893 : decode cL_law 893 = .ok (.iaload, 1) := by decide +kernel
theorem dL_law_894 : decode cL_law 894 = .ok (.aload_n 0, 1) := by decide +kernel
theorem dL_law_895 : decode cL_law 895 = .ok (.iload_n 3, 1) := by decide +kernel
theorem dL_law_896 : decode cL_law 896 = .ok (.iconst 2, 1) := by decide +kernel
theorem dL_law_897 : decode cL_law 897 = .ok (.iadd, 1) := by decide +kernel
theorem dL_law_898 : decode cL_law 898 = .ok (.iaload, 1) := by decide +kernel
theorem dL_law_899 : decode cL_law 899 = .ok (.aload_n 0, 1) := by decide +kernel
theorem dL_law_900 : decode cL_law 900 = .ok (.iload_n 3, 1) := by decide +kernel
theorem dL_law_901 : decode cL_law 901 = .ok (.iconst 3, 1) := by decide +kernel
theorem dL_law_902 : decode cL_law 902 = .ok (.iadd, 1) := by decide +kernel
theorem dL_law_903 : decode cL_law 903 = .ok (.iaload, 1) := by decide +kernel
theorem dL_law_904 : decode cL_law 904 = .ok (.invokevirtual 108, 3) := by decide +kernel
theorem dL_law_907 : decode cL_law 907 = .ok (.if_icmp .eq 300, 3) := by decide +kernel
theorem dL_law_910 : decode cL_law 910 = .ok (.iconst 0, 1) := by decide +kernel
theorem dL_law_911 : decode cL_law 911 = .ok (.ireturn, 1) := by decide +kernel
theorem dL_law_912 : decode cL_law 912 = .ok (.aload_n 1, 1) := by decide +kernel
theorem dL_law_913 : decode cL_law 913 = .ok (.invokevirtual 109, 3) := by decide +kernel
theorem dL_law_916 : decode cL_law 916 = .ok (.aload_n 2, 1) := by decide +kernel
theorem dL_law_917 : decode cL_law 917 = .ok (.invokevirtual 112, 3) := by decide +kernel
theorem dL_law_920 : decode cL_law 920 = .ok (.if_icmp .eq 287, 3) := by decide +kernel
theorem dL_law_923 : decode cL_law 923 = .ok (.iconst 0, 1) := by decide +kernel
theorem dL_law_924 : decode cL_law 924 = .ok (.ireturn, 1) := by decide +kernel
theorem dL_law_925 : decode cL_law 925 = .ok (.aload_n 1, 1) := by decide +kernel
theorem dL_law_926 : decode cL_law 926 = .ok (.invokevirtual 113, 3) := by decide +kernel
theorem dL_law_929 : decode cL_law 929 = .ok (.aload_n 2, 1) := by decide +kernel
theorem dL_law_930 : decode cL_law 930 = .ok (.invokevirtual 116, 3) := by decide +kernel
theorem dL_law_933 : decode cL_law 933 = .ok (.if_icmp .eq 274, 3) := by decide +kernel
theorem dL_law_936 : decode cL_law 936 = .ok (.iconst 0, 1) := by decide +kernel
theorem dL_law_937 : decode cL_law 937 = .ok (.ireturn, 1) := by decide +kernel
theorem dL_law_938 : decode cL_law 938 = .ok (.aload_n 1, 1) := by decide +kernel
theorem dL_law_939 : decode cL_law 939 = .ok (.aload_n 0, 1) := by decide +kernel
theorem dL_law_940 : decode cL_law 940 = .ok (.iload_n 3, 1) := by decide +kernel
theorem dL_law_941 : decode cL_law 941 = .ok (.iconst 1, 1) := by decide +kernel
theorem dL_law_942 : decode cL_law 942 = .ok (.iadd, 1) := by decide +kernel
theorem dL_law_943 : decode cL_law 943 = .ok (.iaload, 1) := by decide +kernel
theorem dL_law_944 : decode cL_law 944 = .ok (.aload_n 0, 1) := by decide +kernel
theorem dL_law_945 : decode cL_law 945 = .ok (.iload_n 3, 1) := by decide +kernel
theorem dL_law_946 : decode cL_law 946 = .ok (.iconst 2, 1) := by decide +kernel
theorem dL_law_947 : decode cL_law 947 = .ok (.iadd, 1) := by decide +kernel
theorem dL_law_948 : decode cL_law 948 = .ok (.iaload, 1) := by decide +kernel
theorem dL_law_949 : decode cL_law 949 = .ok (.invokevirtual 117, 3) := by decide +kernel
theorem dL_law_952 : decode cL_law 952 = .ok (.aload_n 2, 1) := by decide +kernel
theorem dL_law_953 : decode cL_law 953 = .ok (.aload_n 0, 1) := by decide +kernel
theorem dL_law_954 : decode cL_law 954 = .ok (.iload_n 3, 1) := by decide +kernel
theorem dL_law_955 : decode cL_law 955 = .ok (.iconst 1, 1) := by decide +kernel
theorem dL_law_956 : decode cL_law 956 = .ok (.iadd, 1) := by decide +kernel
theorem dL_law_957 : decode cL_law 957 = .ok (.iaload, 1) := by decide +kernel
theorem dL_law_958 : decode cL_law 958 = .ok (.aload_n 0, 1) := by decide +kernel
theorem dL_law_959 : decode cL_law 959 = .ok (.iload_n 3, 1) := by decide +kernel
theorem dL_law_960 : decode cL_law 960 = .ok (.iconst 2, 1) := by decide +kernel
theorem dL_law_961 : decode cL_law 961 = .ok (.iadd, 1) := by decide +kernel
theorem dL_law_962 : decode cL_law 962 = .ok (.iaload, 1) := by decide +kernel
theorem dL_law_963 : decode cL_law 963 = .ok (.invokevirtual 120, 3) := by decide +kernel
theorem dL_law_966 : decode cL_law 966 = .ok (.if_icmp .eq 241, 3) := by decide +kernel
theorem dL_law_969 : decode cL_law 969 = .ok (.iconst 0, 1) := by decide +kernel
theorem dL_law_970 : decode cL_law 970 = .ok (.ireturn, 1) := by decide +kernel
theorem dL_law_971 : decode cL_law 971 = .ok (.aload_n 1, 1) := by decide +kernel
theorem dL_law_972 : decode cL_law 972 = .ok (.aload_n 0, 1) := by decide +kernel
theorem dL_law_973 : decode cL_law 973 = .ok (.iload_n 3, 1) := by decide +kernel
theorem dL_law_974 : decode cL_law 974 = .ok (.iconst 1, 1) := by decide +kernel
theorem dL_law_975 : decode cL_law 975 = .ok (.iadd, 1) := by decide +kernel
theorem dL_law_976 : decode cL_law 976 = .ok (.iaload, 1) := by decide +kernel
theorem dL_law_977 : decode cL_law 977 = .ok (.invokevirtual 121, 3) := by decide +kernel
theorem dL_law_980 : decode cL_law 980 = .ok (.aload_n 2, 1) := by decide +kernel
theorem dL_law_981 : decode cL_law 981 = .ok (.aload_n 0, 1) := by decide +kernel
theorem dL_law_982 : decode cL_law 982 = .ok (.iload_n 3, 1) := by decide +kernel
theorem dL_law_983 : decode cL_law 983 = .ok (.iconst 1, 1) := by decide +kernel
theorem dL_law_984 : decode cL_law 984 = .ok (.iadd, 1) := by decide +kernel
theorem dL_law_985 : decode cL_law 985 = .ok (.iaload, 1) := by decide +kernel
theorem dL_law_986 : decode cL_law 986 = .ok (.invokevirtual 124, 3) := by decide +kernel
theorem dL_law_989 : decode cL_law 989 = .ok (.if_icmp .eq 218, 3) := by decide +kernel
theorem dL_law_992 : decode cL_law 992 = .ok (.iconst 0, 1) := by decide +kernel
theorem dL_law_993 : decode cL_law 993 = .ok (.ireturn, 1) := by decide +kernel
theorem dL_law_994 : decode cL_law 994 = .ok (.aload_n 1, 1) := by decide +kernel
theorem dL_law_995 : decode cL_law 995 = .ok (.aload_n 0, 1) := by decide +kernel
theorem dL_law_996 : decode cL_law 996 = .ok (.iload_n 3, 1) := by decide +kernel
theorem dL_law_997 : decode cL_law 997 = .ok (.iconst 1, 1) := by decide +kernel
theorem dL_law_998 : decode cL_law 998 = .ok (.iadd, 1) := by decide +kernel
theorem dL_law_999 : decode cL_law 999 = .ok (.iaload, 1) := by decide +kernel
theorem dL_law_1000 : decode cL_law 1000 = .ok (.aload_n 0, 1) := by decide +kernel
theorem dL_law_1001 : decode cL_law 1001 = .ok (.iload_n 3, 1) := by decide +kernel
theorem dL_law_1002 : decode cL_law 1002 = .ok (.iconst 2, 1) := by decide +kernel
theorem dL_law_1003 : decode cL_law 1003 = .ok (.iadd, 1) := by decide +kernel
theorem dL_law_1004 : decode cL_law 1004 = .ok (.iaload, 1) := by decide +kernel
theorem dL_law_1005 : decode cL_law 1005 = .ok (.aload_n 0, 1) := by decide +kernel
theorem dL_law_1006 : decode cL_law 1006 = .ok (.iload_n 3, 1) := by decide +kernel
theorem dL_law_1007 : decode cL_law 1007 = .ok (.iconst 3, 1) := by decide +kernel
theorem dL_law_1008 : decode cL_law 1008 = .ok (.iadd, 1) := by decide +kernel
theorem dL_law_1009 : decode cL_law 1009 = .ok (.iaload, 1) := by decide +kernel
theorem dL_law_1010 : decode cL_law 1010 = .ok (.invokevirtual 125, 3) := by decide +kernel
theorem dL_law_1013 : decode cL_law 1013 = .ok (.aload_n 2, 1) := by decide +kernel
theorem dL_law_1014 : decode cL_law 1014 = .ok (.aload_n 0, 1) := by decide +kernel
theorem dL_law_1015 : decode cL_law 1015 = .ok (.iload_n 3, 1) := by decide +kernel
theorem dL_law_1016 : decode cL_law 1016 = .ok (.iconst 1, 1) := by decide +kernel
theorem dL_law_1017 : decode cL_law 1017 = .ok (.iadd, 1) := by decide +kernel
theorem dL_law_1018 : decode cL_law 1018 = .ok (.iaload, 1) := by decide +kernel
theorem dL_law_1019 : decode cL_law 1019 = .ok (.aload_n 0, 1) := by decide +kernel
theorem dL_law_1020 : decode cL_law 1020 = .ok (.iload_n 3, 1) := by decide +kernel
theorem dL_law_1021 : decode cL_law 1021 = .ok (.iconst 2, 1) := by decide +kernel
theorem dL_law_1022 : decode cL_law 1022 = .ok (.iadd, 1) := by decide +kernel
theorem dL_law_1023 : decode cL_law 1023 = .ok (.iaload, 1) := by decide +kernel
theorem dL_law_1024 : decode cL_law 1024 = .ok (.aload_n 0, 1) := by decide +kernel
theorem dL_law_1025 : decode cL_law 1025 = .ok (.iload_n 3, 1) := by decide +kernel
theorem dL_law_1026 : decode cL_law 1026 = .ok (.iconst 3, 1) := by decide +kernel
theorem dL_law_1027 : decode cL_law 1027 = .ok (.iadd, 1) := by decide +kernel
theorem dL_law_1028 : decode cL_law 1028 = .ok (.iaload, 1) := by decide +kernel
theorem dL_law_1029 : decode cL_law 1029 = .ok (.invokevirtual 128, 3) := by decide +kernel
theorem dL_law_1032 : decode cL_law 1032 = .ok (.if_icmp .eq 175, 3) := by decide +kernel
theorem dL_law_1035 : decode cL_law 1035 = .ok (.iconst 0, 1) := by decide +kernel
theorem dL_law_1036 : decode cL_law 1036 = .ok (.ireturn, 1) := by decide +kernel
theorem dL_law_1037 : decode cL_law 1037 = .ok (.aload_n 1, 1) := by decide +kernel
theorem dL_law_1038 : decode cL_law 1038 = .ok (.aload_n 0, 1) := by decide +kernel
theorem dL_law_1039 : decode cL_law 1039 = .ok (.iload_n 3, 1) := by decide +kernel
theorem dL_law_1040 : decode cL_law 1040 = .ok (.iconst 1, 1) := by decide +kernel
theorem dL_law_1041 : decode cL_law 1041 = .ok (.iadd, 1) := by decide +kernel
theorem dL_law_1042 : decode cL_law 1042 = .ok (.iaload, 1) := by decide +kernel
theorem dL_law_1043 : decode cL_law 1043 = .ok (.aload_n 0, 1) := by decide +kernel
theorem dL_law_1044 : decode cL_law 1044 = .ok (.iload_n 3, 1) := by decide +kernel
theorem dL_law_1045 : decode cL_law 1045 = .ok (.iconst 2, 1) := by decide +kernel
theorem dL_law_1046 : decode cL_law 1046 = .ok (.iadd, 1) := by decide +kernel
theorem dL_law_1047 : decode cL_law 1047 = .ok (.iaload, 1) := by decide +kernel
theorem dL_law_1048 : decode cL_law 1048 = .ok (.aload_n 0, 1) := by decide +kernel
theorem dL_law_1049 : decode cL_law 1049 = .ok (.iload_n 3, 1) := by decide +kernel
theorem dL_law_1050 : decode cL_law 1050 = .ok (.iconst 3, 1) := by decide +kernel
theorem dL_law_1051 : decode cL_law 1051 = .ok (.iadd, 1) := by decide +kernel
theorem dL_law_1052 : decode cL_law 1052 = .ok (.iaload, 1) := by decide +kernel
theorem dL_law_1053 : decode cL_law 1053 = .ok (.i2l, 1) := by decide +kernel
theorem dL_law_1054 : decode cL_law 1054 = .ok (.bipush 32, 2) := by decide +kernel
theorem dL_law_1056 : decode cL_law 1056 = .ok (.lshl, 1) := by decide +kernel
theorem dL_law_1057 : decode cL_law 1057 = .ok (.aload_n 0, 1) := by decide +kernel
theorem dL_law_1058 : decode cL_law 1058 = .ok (.iload_n 3, 1) := by decide +kernel
theorem dL_law_1059 : decode cL_law 1059 = .ok (.iconst 4, 1) := by decide +kernel
theorem dL_law_1060 : decode cL_law 1060 = .ok (.iadd, 1) := by decide +kernel
theorem dL_law_1061 : decode cL_law 1061 = .ok (.iaload, 1) := by decide +kernel
theorem dL_law_1062 : decode cL_law 1062 = .ok (.i2l, 1) := by decide +kernel
theorem dL_law_1063 : decode cL_law 1063 = .ok (.ldc2_w 129, 3) := by decide +kernel
theorem dL_law_1066 : decode cL_law 1066 = .ok (.land, 1) := by decide +kernel
theorem dL_law_1067 : decode cL_law 1067 = .ok (.lor, 1) := by decide +kernel
theorem dL_law_1068 : decode cL_law 1068 = .ok (.invokevirtual 131, 3) := by decide +kernel
theorem dL_law_1071 : decode cL_law 1071 = .ok (.aload_n 2, 1) := by decide +kernel
theorem dL_law_1072 : decode cL_law 1072 = .ok (.aload_n 0, 1) := by decide +kernel
theorem dL_law_1073 : decode cL_law 1073 = .ok (.iload_n 3, 1) := by decide +kernel
theorem dL_law_1074 : decode cL_law 1074 = .ok (.iconst 1, 1) := by decide +kernel
theorem dL_law_1075 : decode cL_law 1075 = .ok (.iadd, 1) := by decide +kernel
theorem dL_law_1076 : decode cL_law 1076 = .ok (.iaload, 1) := by decide +kernel
theorem dL_law_1077 : decode cL_law 1077 = .ok (.aload_n 0, 1) := by decide +kernel
theorem dL_law_1078 : decode cL_law 1078 = .ok (.iload_n 3, 1) := by decide +kernel
theorem dL_law_1079 : decode cL_law 1079 = .ok (.iconst 2, 1) := by decide +kernel
theorem dL_law_1080 : decode cL_law 1080 = .ok (.iadd, 1) := by decide +kernel
theorem dL_law_1081 : decode cL_law 1081 = .ok (.iaload, 1) := by decide +kernel
theorem dL_law_1082 : decode cL_law 1082 = .ok (.aload_n 0, 1) := by decide +kernel
theorem dL_law_1083 : decode cL_law 1083 = .ok (.iload_n 3, 1) := by decide +kernel
theorem dL_law_1084 : decode cL_law 1084 = .ok (.iconst 3, 1) := by decide +kernel
theorem dL_law_1085 : decode cL_law 1085 = .ok (.iadd, 1) := by decide +kernel
theorem dL_law_1086 : decode cL_law 1086 = .ok (.iaload, 1) := by decide +kernel
theorem dL_law_1087 : decode cL_law 1087 = .ok (.i2l, 1) := by decide +kernel
theorem dL_law_1088 : decode cL_law 1088 = .ok (.bipush 32, 2) := by decide +kernel
theorem dL_law_1090 : decode cL_law 1090 = .ok (.lshl, 1) := by decide +kernel
theorem dL_law_1091 : decode cL_law 1091 = .ok (.aload_n 0, 1) := by decide +kernel
theorem dL_law_1092 : decode cL_law 1092 = .ok (.iload_n 3, 1) := by decide +kernel
theorem dL_law_1093 : decode cL_law 1093 = .ok (.iconst 4, 1) := by decide +kernel
theorem dL_law_1094 : decode cL_law 1094 = .ok (.iadd, 1) := by decide +kernel
theorem dL_law_1095 : decode cL_law 1095 = .ok (.iaload, 1) := by decide +kernel
theorem dL_law_1096 : decode cL_law 1096 = .ok (.i2l, 1) := by decide +kernel
theorem dL_law_1097 : decode cL_law 1097 = .ok (.ldc2_w 129, 3) := by decide +kernel
theorem dL_law_1100 : decode cL_law 1100 = .ok (.land, 1) := by decide +kernel
theorem dL_law_1101 : decode cL_law 1101 = .ok (.lor, 1) := by decide +kernel
theorem dL_law_1102 : decode cL_law 1102 = .ok (.invokevirtual 135, 3) := by decide +kernel
theorem dL_law_1105 : decode cL_law 1105 = .ok (.if_icmp .eq 102, 3) := by decide +kernel
theorem dL_law_1108 : decode cL_law 1108 = .ok (.iconst 0, 1) := by decide +kernel
theorem dL_law_1109 : decode cL_law 1109 = .ok (.ireturn, 1) := by decide +kernel
theorem dL_law_1110 : decode cL_law 1110 = .ok (.aload_n 1, 1) := by decide +kernel
theorem dL_law_1111 : decode cL_law 1111 = .ok (.aload_n 0, 1) := by decide +kernel
theorem dL_law_1112 : decode cL_law 1112 = .ok (.iload_n 3, 1) := by decide +kernel
theorem dL_law_1113 : decode cL_law 1113 = .ok (.iconst 1, 1) := by decide +kernel
theorem dL_law_1114 : decode cL_law 1114 = .ok (.iadd, 1) := by decide +kernel
theorem dL_law_1115 : decode cL_law 1115 = .ok (.iaload, 1) := by decide +kernel
theorem dL_law_1116 : decode cL_law 1116 = .ok (.aload_n 0, 1) := by decide +kernel
theorem dL_law_1117 : decode cL_law 1117 = .ok (.iload_n 3, 1) := by decide +kernel
theorem dL_law_1118 : decode cL_law 1118 = .ok (.iconst 2, 1) := by decide +kernel
theorem dL_law_1119 : decode cL_law 1119 = .ok (.iadd, 1) := by decide +kernel
theorem dL_law_1120 : decode cL_law 1120 = .ok (.iaload, 1) := by decide +kernel
theorem dL_law_1121 : decode cL_law 1121 = .ok (.invokevirtual 136, 3) := by decide +kernel
theorem dL_law_1124 : decode cL_law 1124 = .ok (.aload_n 2, 1) := by decide +kernel
theorem dL_law_1125 : decode cL_law 1125 = .ok (.aload_n 0, 1) := by decide +kernel
theorem dL_law_1126 : decode cL_law 1126 = .ok (.iload_n 3, 1) := by decide +kernel
theorem dL_law_1127 : decode cL_law 1127 = .ok (.iconst 1, 1) := by decide +kernel
theorem dL_law_1128 : decode cL_law 1128 = .ok (.iadd, 1) := by decide +kernel
theorem dL_law_1129 : decode cL_law 1129 = .ok (.iaload, 1) := by decide +kernel
theorem dL_law_1130 : decode cL_law 1130 = .ok (.aload_n 0, 1) := by decide +kernel
theorem dL_law_1131 : decode cL_law 1131 = .ok (.iload_n 3, 1) := by decide +kernel
theorem dL_law_1132 : decode cL_law 1132 = .ok (.iconst 2, 1) := by decide +kernel
theorem dL_law_1133 : decode cL_law 1133 = .ok (.iadd, 1) := by decide +kernel
theorem dL_law_1134 : decode cL_law 1134 = .ok (.iaload, 1) := by decide +kernel
theorem dL_law_1135 : decode cL_law 1135 = .ok (.invokevirtual 139, 3) := by decide +kernel
theorem dL_law_1138 : decode cL_law 1138 = .ok (.lcmp, 1) := by decide +kernel
theorem dL_law_1139 : decode cL_law 1139 = .ok (.ifCond .eq 68, 3) := by decide +kernel
theorem dL_law_1142 : decode cL_law 1142 = .ok (.iconst 0, 1) := by decide +kernel
theorem dL_law_1143 : decode cL_law 1143 = .ok (.ireturn, 1) := by decide +kernel
theorem dL_law_1144 : decode cL_law 1144 = .ok (.aload_n 1, 1) := by decide +kernel
theorem dL_law_1145 : decode cL_law 1145 = .ok (.aload_n 0, 1) := by decide +kernel
theorem dL_law_1146 : decode cL_law 1146 = .ok (.iload_n 3, 1) := by decide +kernel
theorem dL_law_1147 : decode cL_law 1147 = .ok (.iconst 1, 1) := by decide +kernel
theorem dL_law_1148 : decode cL_law 1148 = .ok (.iadd, 1) := by decide +kernel
theorem dL_law_1149 : decode cL_law 1149 = .ok (.iaload, 1) := by decide +kernel
theorem dL_law_1150 : decode cL_law 1150 = .ok (.aload_n 0, 1) := by decide +kernel
theorem dL_law_1151 : decode cL_law 1151 = .ok (.iload_n 3, 1) := by decide +kernel
theorem dL_law_1152 : decode cL_law 1152 = .ok (.iconst 2, 1) := by decide +kernel
theorem dL_law_1153 : decode cL_law 1153 = .ok (.iadd, 1) := by decide +kernel
theorem dL_law_1154 : decode cL_law 1154 = .ok (.iaload, 1) := by decide +kernel
theorem dL_law_1155 : decode cL_law 1155 = .ok (.aload_n 0, 1) := by decide +kernel
theorem dL_law_1156 : decode cL_law 1156 = .ok (.iload_n 3, 1) := by decide +kernel
theorem dL_law_1157 : decode cL_law 1157 = .ok (.iconst 3, 1) := by decide +kernel
theorem dL_law_1158 : decode cL_law 1158 = .ok (.iadd, 1) := by decide +kernel
theorem dL_law_1159 : decode cL_law 1159 = .ok (.iaload, 1) := by decide +kernel
theorem dL_law_1160 : decode cL_law 1160 = .ok (.aload_n 0, 1) := by decide +kernel
theorem dL_law_1161 : decode cL_law 1161 = .ok (.iload_n 3, 1) := by decide +kernel
theorem dL_law_1162 : decode cL_law 1162 = .ok (.iconst 4, 1) := by decide +kernel
theorem dL_law_1163 : decode cL_law 1163 = .ok (.iadd, 1) := by decide +kernel
theorem dL_law_1164 : decode cL_law 1164 = .ok (.iaload, 1) := by decide +kernel
theorem dL_law_1165 : decode cL_law 1165 = .ok (.aload_n 0, 1) := by decide +kernel
theorem dL_law_1166 : decode cL_law 1166 = .ok (.iload_n 3, 1) := by decide +kernel
theorem dL_law_1167 : decode cL_law 1167 = .ok (.iconst 5, 1) := by decide +kernel
theorem dL_law_1168 : decode cL_law 1168 = .ok (.iadd, 1) := by decide +kernel
theorem dL_law_1169 : decode cL_law 1169 = .ok (.iaload, 1) := by decide +kernel
theorem dL_law_1170 : decode cL_law 1170 = .ok (.invokevirtual 140, 3) := by decide +kernel
theorem dL_law_1173 : decode cL_law 1173 = .ok (.aload_n 2, 1) := by decide +kernel
theorem dL_law_1174 : decode cL_law 1174 = .ok (.aload_n 0, 1) := by decide +kernel
theorem dL_law_1175 : decode cL_law 1175 = .ok (.iload_n 3, 1) := by decide +kernel
theorem dL_law_1176 : decode cL_law 1176 = .ok (.iconst 1, 1) := by decide +kernel
theorem dL_law_1177 : decode cL_law 1177 = .ok (.iadd, 1) := by decide +kernel
theorem dL_law_1178 : decode cL_law 1178 = .ok (.iaload, 1) := by decide +kernel
theorem dL_law_1179 : decode cL_law 1179 = .ok (.aload_n 0, 1) := by decide +kernel
theorem dL_law_1180 : decode cL_law 1180 = .ok (.iload_n 3, 1) := by decide +kernel
theorem dL_law_1181 : decode cL_law 1181 = .ok (.iconst 2, 1) := by decide +kernel
theorem dL_law_1182 : decode cL_law 1182 = .ok (.iadd, 1) := by decide +kernel
theorem dL_law_1183 : decode cL_law 1183 = .ok (.iaload, 1) := by decide +kernel
theorem dL_law_1184 : decode cL_law 1184 = .ok (.aload_n 0, 1) := by decide +kernel
theorem dL_law_1185 : decode cL_law 1185 = .ok (.iload_n 3, 1) := by decide +kernel
theorem dL_law_1186 : decode cL_law 1186 = .ok (.iconst 3, 1) := by decide +kernel
theorem dL_law_1187 : decode cL_law 1187 = .ok (.iadd, 1) := by decide +kernel
theorem dL_law_1188 : decode cL_law 1188 = .ok (.iaload, 1) := by decide +kernel
theorem dL_law_1189 : decode cL_law 1189 = .ok (.aload_n 0, 1) := by decide +kernel
theorem dL_law_1190 : decode cL_law 1190 = .ok (.iload_n 3, 1) := by decide +kernel
theorem dL_law_1191 : decode cL_law 1191 = .ok (.iconst 4, 1) := by decide +kernel
theorem dL_law_1192 : decode cL_law 1192 = .ok (.iadd, 1) := by decide +kernel
theorem dL_law_1193 : decode cL_law 1193 = .ok (.iaload, 1) := by decide +kernel
theorem dL_law_1194 : decode cL_law 1194 = .ok (.aload_n 0, 1) := by decide +kernel
theorem dL_law_1195 : decode cL_law 1195 = .ok (.iload_n 3, 1) := by decide +kernel
theorem dL_law_1196 : decode cL_law 1196 = .ok (.iconst 5, 1) := by decide +kernel
theorem dL_law_1197 : decode cL_law 1197 = .ok (.iadd, 1) := by decide +kernel
theorem dL_law_1198 : decode cL_law 1198 = .ok (.iaload, 1) := by decide +kernel
theorem dL_law_1199 : decode cL_law 1199 = .ok (.invokevirtual 144, 3) := by decide +kernel
theorem dL_law_1202 : decode cL_law 1202 = .ok (.if_icmp .eq 5, 3) := by decide +kernel
theorem dL_law_1205 : decode cL_law 1205 = .ok (.iconst 0, 1) := by decide +kernel
theorem dL_law_1206 : decode cL_law 1206 = .ok (.ireturn, 1) := by decide +kernel
theorem dL_law_1207 : decode cL_law 1207 = .ok (.iinc 3 6, 3) := by decide +kernel
theorem dL_law_1210 : decode cL_law 1210 = .ok (.goto (-1192), 3) := by decide +kernel
theorem dL_law_1213 : decode cL_law 1213 = .ok (.iconst 1, 1) := by decide +kernel
theorem dL_law_1214 : decode cL_law 1214 = .ok (.ireturn, 1) := by decide +kernel
end
section
/-! ===== heaps of a fixed shape: what changes is a store of numbers alone ===== -/
/-- a shape: an object of class ci, its fields (none: an int; some none: a long; some (some b): the cell b); or an array: its kind, length, what cells it holds -/
abbrev zSh : Type := (Nat × List (Option (Option Nat))) ⊕ (Nat × Nat × (Nat → Option Nat))
/-- ints of objects, longs of objects, items of arrays of ints and bytes, items of arrays of longs -/
abbrev zSt : Type := (Nat → Nat → Int32) × (Nat → Nat → Int64) × (Nat → Nat → Int32) × (Nat → Nat → Int64)
abbrev zi (S : zSt) : Nat → Nat → Int32 := S.1
abbrev zl (S : zSt) : Nat → Nat → Int64 := S.2.1
abbrev za (S : zSt) : Nat → Nat → Int32 := S.2.2.1
abbrev zj (S : zSt) : Nat → Nat → Int64 := S.2.2.2
def zfv1 (S : zSt) (a k : Nat) : Option (Option Nat) → Value
  | none => .int (zi S a k)
  | some none => .long (zl S a k)
  | some (some b) => .ref b
def zfs (S : zSt) (a : Nat) : Nat → List (Option (Option Nat)) → List Value
  | _, [] => []
  | k, d :: l => zfv1 S a k d :: zfs S a (k + 1) l
def zax (S : zSt) (a : Nat) (c : Nat) (f : Nat → Option Nat) : (Nat → Int32) ⊕ (Nat → Int64) ⊕ (Nat → UInt32) ⊕ (Nat → UInt64) ⊕ (Nat → Option Nat) := match c with
  | 0 => .inl (za S a)
  | 1 => .inr (.inl (zj S a))
  | 2 => .inl (za S a)
  | _ => .inr (.inr (.inr (.inr f)))
def zcell (S : zSt) (a : Nat) : zSh → zE
  | .inl o => .inr (o.1, zfs S a 0 o.2)
  | .inr r => .inl (r.1, r.2.1, zax S a r.1 r.2.2)
def zhp (sh : Nat → Option zSh) (S : zSt) : zH := fun a => (sh a).map (zcell S a)
/-- one entry of a table of two arguments -/
def zup {α : Type} (f : Nat → Nat → α) (a k : Nat) (v : α) : Nat → Nat → α := fun b j => if b = a ∧ j = k then v else f b j
theorem zup_same {α : Type} {f : Nat → Nat → α} {a k : Nat} {v : α} : zup f a k v a k = v := if_pos ⟨rfl, rfl⟩
theorem zup_ne {α : Type} {f : Nat → Nat → α} {a k b j : Nat} {v : α} (h : ¬ (b = a ∧ j = k)) : zup f a k v b j = f b j := if_neg h
abbrev zsi (S : zSt) (a k : Nat) (v : Int32) : zSt := (zup S.1 a k v, S.2.1, S.2.2.1, S.2.2.2)
abbrev zsl (S : zSt) (a k : Nat) (v : Int64) : zSt := (S.1, zup S.2.1 a k v, S.2.2.1, S.2.2.2)
abbrev zsa (S : zSt) (a k : Nat) (v : Int32) : zSt := (S.1, S.2.1, zup S.2.2.1 a k v, S.2.2.2)
abbrev zsj (S : zSt) (a k : Nat) (v : Int64) : zSt := (S.1, S.2.1, S.2.2.1, zup S.2.2.2 a k v)
/-- a whole array -/
def zrow {α : Type} (f : Nat → Nat → α) (a : Nat) (g : Nat → α) : Nat → Nat → α := fun b j => if b = a then g j else f b j
abbrev zsA (S : zSt) (a : Nat) (g : Nat → Int32) : zSt := (S.1, S.2.1, zrow S.2.2.1 a g, S.2.2.2)
abbrev zsJ (S : zSt) (a : Nat) (g : Nat → Int64) : zSt := (S.1, S.2.1, S.2.2.1, zrow S.2.2.2 a g)
theorem zfs_get (S : zSt) (a : Nat) : ∀ (l : List (Option (Option Nat))) (k i : Nat), (zfs S a k l)[i]? = (l[i]?).map (zfv1 S a (k + i))
  | [], _, _ => by simp [zfs]
  | d :: l, k, 0 => by simp [zfs]
  | d :: l, k, i + 1 => by
    have := zfs_get S a l (k + 1) i
    simp only [zfs, List.getElem?_cons_succ]
    rw [this, show k + 1 + i = k + (i + 1) by omega]
theorem zfs_len (S : zSt) (a : Nat) : ∀ (l : List (Option (Option Nat))) (k : Nat), (zfs S a k l).length = l.length
  | [], _ => rfl
  | d :: l, k => by simp [zfs, zfs_len S a l (k + 1)]
theorem zhp_at {sh : Nat → Option zSh} {S : zSt} {a : Nat} {x : zSh} (h : sh a = some x) : zhp sh S a = some (zcell S a x) := by
  unfold zhp; rw [h]; rfl
theorem zhp_obj {sh : Nat → Option zSh} {S : zSt} {a ci : Nat} {fds : List (Option (Option Nat))} (h : sh a = some (.inl (ci, fds))) : zhp sh S a = some (.inr (ci, zfs S a 0 fds)) := zhp_at h
/-- the same but at one cell -/
theorem zhp_upd {sh : Nat → Option zSh} {S S' : zSt} {a : Nat} {x : zSh} {e : zE} (h : sh a = some x) (he : e = zcell S' a x) (hs : ∀ b, b ≠ a → S'.1 b = S.1 b ∧ S'.2.1 b = S.2.1 b ∧ S'.2.2.1 b = S.2.2.1 b ∧ S'.2.2.2 b = S.2.2.2 b) : zu (zhp sh S) a e = zhp sh S' := by
  funext b
  by_cases hb : b = a
  · subst hb
    rw [zu_same, zhp_at h, he]
  · rw [zu_ne hb]
    unfold zhp
    obtain ⟨h1, h2, h3, h4⟩ := hs b hb
    cases hsh : sh b with
    | none => rfl
    | some y =>
      show some (zcell S b y) = some (zcell S' b y)
      congr 1
      cases y with
      | inl o =>
        show Sum.inr (o.1, zfs S b 0 o.2) = Sum.inr (o.1, zfs S' b 0 o.2)
        congr 2
        apply List.ext_getElem?
        intro i
        rw [zfs_get, zfs_get]
        cases o.2[i]? with
        | none => rfl
        | some d =>
          show some (zfv1 S b (0 + i) d) = some (zfv1 S' b (0 + i) d)
          congr 1
          match d with
          | none => show Value.int (S.1 b _) = Value.int (S'.1 b _); rw [h1]
          | some none => show Value.long (S.2.1 b _) = Value.long (S'.2.1 b _); rw [h2]
          | some (some c) => rfl
      | inr r =>
        show Sum.inl (r.1, r.2.1, zax S b r.1 r.2.2) = Sum.inl (r.1, r.2.1, zax S' b r.1 r.2.2)
        unfold zax
        congr 3
        match r.1 with
        | 0 => show Sum.inl (S.2.2.1 b) = Sum.inl (S'.2.2.1 b); rw [h3]
        | 1 => show Sum.inr (Sum.inl (S.2.2.2 b)) = Sum.inr (Sum.inl (S'.2.2.2 b)); rw [h4]
        | 2 => show Sum.inl (S.2.2.1 b) = Sum.inl (S'.2.2.1 b); rw [h3]
        | n + 3 => rfl
theorem zup_off {α : Type} {f : Nat → Nat → α} {a k b : Nat} {v : α} (h : b ≠ a) : zup f a k v b = f b := by
  funext j; exact zup_ne (fun q => h q.1)
theorem zrow_off {α : Type} {f : Nat → Nat → α} {a b : Nat} {g : Nat → α} (h : b ≠ a) : zrow f a g b = f b := by
  funext j; exact if_neg h
theorem zrow_on {α : Type} {f : Nat → Nat → α} {a : Nat} {g : Nat → α} : zrow f a g a = g := by
  funext j; exact if_pos rfl
theorem zup_on {f : Nat → Nat → Int32} {a k : Nat} {v : Int32} : zup f a k v a = upd (f a) k v := by
  funext j; unfold zup upd
  by_cases h : j = k <;> simp [h]
theorem zup_onL {f : Nat → Nat → Int64} {a k : Nat} {v : Int64} : zup f a k v a = vp_updL (f a) k v := by
  funext j; unfold zup vp_updL
  by_cases h : j = k <;> simp [h]
theorem zhp_seti {sh : Nat → Option zSh} {S : zSt} {a ci k : Nat} {fds : List (Option (Option Nat))} {v : Int32} (h : sh a = some (.inl (ci, fds))) (hk : fds[k]? = some none) : zu (zhp sh S) a (.inr (ci, (zfs S a 0 fds).set k (.int v))) = zhp sh (zsi S a k v) := by
  refine zhp_upd h ?_ (fun b hb => ⟨zup_off hb, rfl, rfl, rfl⟩)
  show Sum.inr (ci, _) = Sum.inr (ci, _)
  congr 2
  apply List.ext_getElem?
  intro i
  rw [zfs_get]
  by_cases hi : k = i
  · subst hi
    rw [List.getElem?_set_self (by rw [zfs_len]; exact (List.getElem?_eq_some_iff.mp hk).1), hk]
    show _ = some (Value.int (zup S.1 a k v a (0 + k)))
    rw [Nat.zero_add, zup_same]
  · rw [List.getElem?_set_ne hi, zfs_get]
    cases fds[i]? with
    | none => rfl
    | some d =>
      show some (zfv1 S a (0 + i) d) = some (zfv1 _ a (0 + i) d)
      congr 1
      match d with
      | none => show Value.int (S.1 a _) = Value.int (zup S.1 a k v a _); rw [zup_ne (by omega)]
      | some none => rfl
      | some (some c) => rfl
theorem zhp_setl {sh : Nat → Option zSh} {S : zSt} {a ci k : Nat} {fds : List (Option (Option Nat))} {v : Int64} (h : sh a = some (.inl (ci, fds))) (hk : fds[k]? = some (some none)) : zu (zhp sh S) a (.inr (ci, (zfs S a 0 fds).set k (.long v))) = zhp sh (zsl S a k v) := by
  refine zhp_upd h ?_ (fun b hb => ⟨rfl, zup_off hb, rfl, rfl⟩)
  show Sum.inr (ci, _) = Sum.inr (ci, _)
  congr 2
  apply List.ext_getElem?
  intro i
  rw [zfs_get]
  by_cases hi : k = i
  · subst hi
    rw [List.getElem?_set_self (by rw [zfs_len]; exact (List.getElem?_eq_some_iff.mp hk).1), hk]
    show _ = some (Value.long (zup S.2.1 a k v a (0 + k)))
    rw [Nat.zero_add, zup_same]
  · rw [List.getElem?_set_ne hi, zfs_get]
    cases fds[i]? with
    | none => rfl
    | some d =>
      show some (zfv1 S a (0 + i) d) = some (zfv1 _ a (0 + i) d)
      congr 1
      match d with
      | none => rfl
      | some none => show Value.long (S.2.1 a _) = Value.long (zup S.2.1 a k v a _); rw [zup_ne (by omega)]
      | some (some c) => rfl
theorem zhp_setA {sh : Nat → Option zSh} {S : zSt} {a c n : Nat} {f : Nat → Option Nat} {g : Nat → Int32} (h : sh a = some (.inr (c, n, f))) (hc : c = 0 ∨ c = 2) : zu (zhp sh S) a (.inl (c, n, .inl g)) = zhp sh (zsA S a g) := by
  refine zhp_upd h ?_ (fun b hb => ⟨rfl, rfl, zrow_off hb, rfl⟩)
  rcases hc with rfl | rfl <;> (show Sum.inl (_, n, Sum.inl g) = Sum.inl (_, n, Sum.inl (zrow S.2.2.1 a g a)); rw [zrow_on])
theorem zhp_setJ {sh : Nat → Option zSh} {S : zSt} {a n : Nat} {f : Nat → Option Nat} {g : Nat → Int64} (h : sh a = some (.inr (1, n, f))) : zu (zhp sh S) a (.inl (1, n, .inr (.inl g))) = zhp sh (zsJ S a g) := by
  refine zhp_upd h ?_ (fun b hb => ⟨rfl, rfl, rfl, zrow_off hb⟩)
  show Sum.inl (1, n, Sum.inr (Sum.inl g)) = Sum.inl (1, n, Sum.inr (Sum.inl (zrow S.2.2.2 a g a)))
  rw [zrow_on]
theorem zhp_seta {sh : Nat → Option zSh} {S : zSt} {a c n k : Nat} {f : Nat → Option Nat} {v : Int32} (h : sh a = some (.inr (c, n, f))) (hc : c = 0 ∨ c = 2) : zu (zhp sh S) a (.inl (c, n, .inl (upd (za S a) k v))) = zhp sh (zsa S a k v) := by
  refine zhp_upd h ?_ (fun b hb => ⟨rfl, rfl, zup_off hb, rfl⟩)
  rcases hc with rfl | rfl <;> (show Sum.inl (_, n, Sum.inl _) = Sum.inl (_, n, Sum.inl (zup S.2.2.1 a k v a)); rw [zup_on])
theorem zhp_setj {sh : Nat → Option zSh} {S : zSt} {a n k : Nat} {f : Nat → Option Nat} {v : Int64} (h : sh a = some (.inr (1, n, f))) : zu (zhp sh S) a (.inl (1, n, .inr (.inl (vp_updL (zj S a) k v)))) = zhp sh (zsj S a k v) := by
  refine zhp_upd h ?_ (fun b hb => ⟨rfl, rfl, rfl, zup_off hb⟩)
  show Sum.inl (1, n, Sum.inr (Sum.inl _)) = Sum.inl (1, n, Sum.inr (Sum.inl (zup S.2.2.2 a k v a)))
  rw [zup_onL]
section ZS
variable {G : zG} {M : zM} {R : Room} {F : zFin} {cn sn pc : Nat} {lv lv' : List (Option Value)} {st : List Value} {sz : Nat} {sh : Nat → Option zSh} {S : zSt}
theorem s_geti {ci k index a : Nat} {t : FieldType} {fin : Bool} {fds : List (Option (Option Nat))} (hf : zFl M.1 index ci k t fin) (hd : decode (zcd M) pc = .ok (.getfield index, 3)) (he : sh a = some (.inl (ci, fds))) (hk : fds[k]? = some none) (kk : zW G M R F cn sn (pc + 3) lv (.int (zi S a k) :: st) (zhp sh S) sz) : zW G M R F cn sn pc lv (.ref a :: st) (zhp sh S) sz :=
  z_getf hf hd (zhp_obj he) (by rw [zfs_get, hk, Nat.zero_add]; rfl) kk
theorem s_getl {ci k index a : Nat} {t : FieldType} {fin : Bool} {fds : List (Option (Option Nat))} (hf : zFl M.1 index ci k t fin) (hd : decode (zcd M) pc = .ok (.getfield index, 3)) (he : sh a = some (.inl (ci, fds))) (hk : fds[k]? = some (some none)) (kk : zW G M R F cn sn (pc + 3) lv (.long (zl S a k) :: st) (zhp sh S) sz) : zW G M R F cn sn pc lv (.ref a :: st) (zhp sh S) sz :=
  z_getf hf hd (zhp_obj he) (by rw [zfs_get, hk, Nat.zero_add]; rfl) kk
theorem s_getr {ci k index a b : Nat} {t : FieldType} {fin : Bool} {fds : List (Option (Option Nat))} (hf : zFl M.1 index ci k t fin) (hd : decode (zcd M) pc = .ok (.getfield index, 3)) (he : sh a = some (.inl (ci, fds))) (hk : fds[k]? = some (some (some b))) (kk : zW G M R F cn sn (pc + 3) lv (.ref b :: st) (zhp sh S) sz) : zW G M R F cn sn pc lv (.ref a :: st) (zhp sh S) sz :=
  z_getf hf hd (zhp_obj he) (by rw [zfs_get, hk, Nat.zero_add]; rfl) kk
theorem s_puti {ci k index a : Nat} {t : FieldType} {fds : List (Option (Option Nat))} {v : Int32} (hf : zFl M.1 index ci k t false) (hd : decode (zcd M) pc = .ok (.putfield index, 3)) (he : sh a = some (.inl (ci, fds))) (hk : fds[k]? = some none) (hn : narrow t (.int v) = .int v ∧ fits t (.int v) = true) (kk : zW G M R F cn sn (pc + 3) lv st (zhp sh (zsi S a k v)) sz) : zW G M R F cn sn pc lv (.int v :: .ref a :: st) (zhp sh S) sz :=
  z_putf hf hd (zhp_obj he) (by rw [zfs_len]; exact (List.getElem?_eq_some_iff.mp hk).1) hn (z_heap (zhp_seti he hk) kk)
theorem s_putl {ci k index a : Nat} {t : FieldType} {fds : List (Option (Option Nat))} {v : Int64} (hf : zFl M.1 index ci k t false) (hd : decode (zcd M) pc = .ok (.putfield index, 3)) (he : sh a = some (.inl (ci, fds))) (hk : fds[k]? = some (some none)) (hn : narrow t (.long v) = .long v ∧ fits t (.long v) = true) (kk : zW G M R F cn sn (pc + 3) lv st (zhp sh (zsl S a k v)) sz) : zW G M R F cn sn pc lv (.long v :: .ref a :: st) (zhp sh S) sz :=
  z_putf hf hd (zhp_obj he) (by rw [zfs_len]; exact (List.getElem?_eq_some_iff.mp hk).1) hn (z_heap (zhp_setl he hk) kk)
theorem s_iald {n a : Nat} {f : Nat → Option Nat} {i : Int32} (hd : decode (zcd M) pc = .ok (.iaload, 1)) (he : sh a = some (.inr (0, n, f))) (hin : vp_in i n) (kk : zW G M R F cn sn (pc + 1) lv (.int (za S a i.toNatClampNeg) :: st) (zhp sh S) sz) : zW G M R F cn sn pc lv (.int i :: .ref a :: st) (zhp sh S) sz :=
  z_iald hd (zhp_at he) hin kk
theorem s_bald {n a : Nat} {f : Nat → Option Nat} {i : Int32} (hd : decode (zcd M) pc = .ok (.baload, 1)) (he : sh a = some (.inr (2, n, f))) (hin : vp_in i n) (kk : zW G M R F cn sn (pc + 1) lv (.int (za S a i.toNatClampNeg) :: st) (zhp sh S) sz) : zW G M R F cn sn pc lv (.int i :: .ref a :: st) (zhp sh S) sz :=
  z_bald hd (zhp_at he) hin kk
theorem s_lald {n a : Nat} {f : Nat → Option Nat} {i : Int32} (hd : decode (zcd M) pc = .ok (.laload, 1)) (he : sh a = some (.inr (1, n, f))) (hin : vp_in i n) (kk : zW G M R F cn sn (pc + 1) lv (.long (zj S a i.toNatClampNeg) :: st) (zhp sh S) sz) : zW G M R F cn sn pc lv (.int i :: .ref a :: st) (zhp sh S) sz :=
  z_lald hd (zhp_at he) hin kk
theorem s_aald {c n a b : Nat} {f : Nat → Option Nat} {i : Int32} (hc : 3 ≤ c ∧ c < 7) (hd : decode (zcd M) pc = .ok (.aaload, 1)) (he : sh a = some (.inr (c, n, f))) (hin : vp_in i n) (hf : f i.toNatClampNeg = some b) (kk : zW G M R F cn sn (pc + 1) lv (.ref b :: st) (zhp sh S) sz) : zW G M R F cn sn pc lv (.int i :: .ref a :: st) (zhp sh S) sz := by
  have hk : c < 7 ∧ (zT c).isReference = true := by
    refine ⟨hc.2, ?_⟩
    match c, hc with
    | 3, _ => rfl
    | 4, _ => rfl
    | 5, _ => rfl
    | 6, _ => rfl
  have hz : zhp sh S a = some (.inl (c, n, .inr (.inr (.inr (.inr f))))) := by
    rw [zhp_at he]
    match c, hc with
    | 3, _ => rfl
    | 4, _ => rfl
    | 5, _ => rfl
    | 6, _ => rfl
  exact z_aald hk hd hz hin hf kk
theorem s_iast {n a : Nat} {f : Nat → Option Nat} {i x : Int32} (hd : decode (zcd M) pc = .ok (.iastore, 1)) (he : sh a = some (.inr (0, n, f))) (hin : vp_in i n) (kk : zW G M R F cn sn (pc + 1) lv st (zhp sh (zsa S a i.toNatClampNeg x)) sz) : zW G M R F cn sn pc lv (.int x :: .int i :: .ref a :: st) (zhp sh S) sz :=
  z_iast hd (zhp_at he) hin (z_heap (zhp_seta he (Or.inl rfl)) kk)
theorem s_bast {n a : Nat} {f : Nat → Option Nat} {i x : Int32} (hd : decode (zcd M) pc = .ok (.bastore, 1)) (he : sh a = some (.inr (2, n, f))) (hin : vp_in i n) (kk : zW G M R F cn sn (pc + 1) lv st (zhp sh (zsa S a i.toNatClampNeg x.toInt8.toInt32)) sz) : zW G M R F cn sn pc lv (.int x :: .int i :: .ref a :: st) (zhp sh S) sz :=
  z_bast hd (zhp_at he) hin (z_heap (zhp_seta he (Or.inr rfl)) kk)
theorem s_last {n a : Nat} {f : Nat → Option Nat} {i : Int32} {x : Int64} (hd : decode (zcd M) pc = .ok (.lastore, 1)) (he : sh a = some (.inr (1, n, f))) (hin : vp_in i n) (kk : zW G M R F cn sn (pc + 1) lv st (zhp sh (zsj S a i.toNatClampNeg x)) sz) : zW G M R F cn sn pc lv (.long x :: .int i :: .ref a :: st) (zhp sh S) sz :=
  z_last hd (zhp_at he) hin (z_heap (zhp_setj he) kk)
theorem s_alen {n a c : Nat} {f : Nat → Option Nat} (v : Int32) (hd : decode (zcd M) pc = .ok (.arraylength, 1)) (hc : c < 7) (he : sh a = some (.inr (c, n, f))) (hv : Int32.ofNat n = v) (kk : zW G M R F cn sn (pc + 1) lv (.int v :: st) (zhp sh S) sz) : zW G M R F cn sn pc lv (.ref a :: st) (zhp sh S) sz :=
  z_alen v hd hc (zhp_at he) hv kk
/-- a contract over a shape: answer and store outright -/
abbrev zD (G : zG) (M : zM) (d : Nat) (sh : Nat → Option zSh) (av : List Value) (S : zSt) (r : Option Value) (S' : zSt) : Prop := ∀ sz : Nat, zCe G M d av (zhp sh S) sz r (zhp sh S')
/-- and by a relation -/
abbrev zP (sh : Nat → Option zSh) (sz : Nat) (Q : Option Value → zSt → Prop) : zPost := fun r ah' sz' => sz' = sz ∧ ∃ S' : zSt, ah' = zhp sh S' ∧ Q r S'
abbrev zR (G : zG) (M : zM) (d : Nat) (sh : Nat → Option zSh) (av : List Value) (S : zSt) (Q : Option Value → zSt → Prop) : Prop := ∀ sz : Nat, zC G M d 0 0 av (zhp sh S) sz (zP sh sz Q)
theorem s_meth {d : Nat} {av : List Value} {Q : Option Value → zSt → Prop} (k : Nat) {lv : List (Option Value)} (hy : plainName M.2.1.cls = true ∧ M.1 = M.2.1.cls ∧ (lg_sl av).length ≤ zml M) (hlv : zent av ++ List.replicate k none = lv)
    (kk : ∀ sz : Nat, zW G M (zRm d 0 0) (zFm G (zP sh sz Q) 0 0) 0 0 0 lv [] (zhp sh S) sz) : zR G M d sh av S Q := fun sz => z_meth k hy hlv (kk sz)
theorem s_methD {d : Nat} {av : List Value} {r : Option Value} {S' : zSt} (k : Nat) {lv : List (Option Value)} (hy : plainName M.2.1.cls = true ∧ M.1 = M.2.1.cls ∧ (lg_sl av).length ≤ zml M) (hlv : zent av ++ List.replicate k none = lv)
    (kk : ∀ sz : Nat, zW G M (zRm d 0 0) (zFm G (zQe r (zhp sh S') sz) 0 0) 0 0 0 lv [] (zhp sh S) sz) : zD G M d sh av S r S' := fun sz => z_meth k hy hlv (kk sz)
theorem s_callV1 {M' : zM} {d' n ci index b : Nat} {fds : List (Option (Option Nat))} {As rest : List Value} {v : Value} {S' : zSt} (hlk : zLV M.1 index M' ci n) (hc : zD G M' d' sh (.ref b :: As) S (some v) S') (hb : sh b = some (.inl (ci, fds))) (hd : decode (zcd M) pc = .ok (.invokevirtual index, 3)) (hst : st = As.reverse ++ .ref b :: rest) (hn : As.length = n) (hro : (rest.map fun v => v.category).sum ≤ 8) (hR : zRR R M' d' 0 0 cn sn)
    (k : zW G M R F cn sn (pc + 3) lv (v :: rest) (zhp sh S') sz) : zW G M R F cn sn pc lv st (zhp sh S) sz :=
  z_callV1 hlk (hc sz) (zhp_obj hb) hd hst hn hro hR k
theorem s_callV0 {M' : zM} {d' n ci index b : Nat} {fds : List (Option (Option Nat))} {As rest : List Value} {S' : zSt} (hlk : zLV M.1 index M' ci n) (hc : zD G M' d' sh (.ref b :: As) S none S') (hb : sh b = some (.inl (ci, fds))) (hd : decode (zcd M) pc = .ok (.invokevirtual index, 3)) (hst : st = As.reverse ++ .ref b :: rest) (hn : As.length = n) (hro : (rest.map fun v => v.category).sum ≤ 8) (hR : zRR R M' d' 0 0 cn sn)
    (k : zW G M R F cn sn (pc + 3) lv (rest) (zhp sh S') sz) : zW G M R F cn sn pc lv st (zhp sh S) sz :=
  z_callV0 hlk (hc sz) (zhp_obj hb) hd hst hn hro hR k
theorem s_callV {M' : zM} {d' n ci index b : Nat} {fds : List (Option (Option Nat))} {As rest : List Value} {Q : Option Value → zSt → Prop} (hlk : zLV M.1 index M' ci n) (hc : zR G M' d' sh (.ref b :: As) S Q) (hb : sh b = some (.inl (ci, fds))) (hd : decode (zcd M) pc = .ok (.invokevirtual index, 3)) (hst : st = As.reverse ++ .ref b :: rest) (hn : As.length = n) (hro : (rest.map fun v => v.category).sum ≤ 8) (hR : zRR R M' d' 0 0 cn sn)
    (k : ∀ (r : Option Value) (S' : zSt), Q r S' → zW G M R F cn sn (pc + 3) lv (r.toList ++ rest) (zhp sh S') sz) : zW G M R F cn sn pc lv st (zhp sh S) sz :=
  z_callV hlk (hc sz) (zhp_obj hb) hd hst hn hro hR (fun r a z q => by obtain ⟨rfl, S', rfl, hq⟩ := q; exact k r S' hq)
theorem s_callS1 {M' : zM} {d' n index : Nat} {As rest : List Value} {v : Value} {S' : zSt} (hlk : zLS M.1 index M' n) (hc : zD G M' d' sh As S (some v) S') (hd : decode (zcd M) pc = .ok (.invokestatic index, 3)) (hst : st = As.reverse ++ rest) (hn : As.length = n) (hro : (rest.map fun v => v.category).sum ≤ 8) (hR : zRR R M' d' 0 0 cn sn)
    (k : zW G M R F cn sn (pc + 3) lv (v :: rest) (zhp sh S') sz) : zW G M R F cn sn pc lv st (zhp sh S) sz :=
  z_callS1 hlk (hc sz) hd hst hn hro hR k
theorem s_callS0 {M' : zM} {d' n index : Nat} {As rest : List Value} {S' : zSt} (hlk : zLS M.1 index M' n) (hc : zD G M' d' sh As S none S') (hd : decode (zcd M) pc = .ok (.invokestatic index, 3)) (hst : st = As.reverse ++ rest) (hn : As.length = n) (hro : (rest.map fun v => v.category).sum ≤ 8) (hR : zRR R M' d' 0 0 cn sn)
    (k : zW G M R F cn sn (pc + 3) lv (rest) (zhp sh S') sz) : zW G M R F cn sn pc lv st (zhp sh S) sz :=
  z_callS0 hlk (hc sz) hd hst hn hro hR k
theorem s_callS {M' : zM} {d' n index : Nat} {As rest : List Value} {Q : Option Value → zSt → Prop} (hlk : zLS M.1 index M' n) (hc : zR G M' d' sh As S Q) (hd : decode (zcd M) pc = .ok (.invokestatic index, 3)) (hst : st = As.reverse ++ rest) (hn : As.length = n) (hro : (rest.map fun v => v.category).sum ≤ 8) (hR : zRR R M' d' 0 0 cn sn)
    (k : ∀ (r : Option Value) (S' : zSt), Q r S' → zW G M R F cn sn (pc + 3) lv (r.toList ++ rest) (zhp sh S') sz) : zW G M R F cn sn pc lv st (zhp sh S) sz :=
  z_callS hlk (hc sz) hd hst hn hro hR (fun r a z q => by obtain ⟨rfl, S', rfl, hq⟩ := q; exact k r S' hq)
theorem s_callI0 {M' : zM} {d' n index b : Nat} {As rest : List Value} {S' : zSt} (hlk : zLI M.1 index M' n) (hc : zD G M' d' sh (.ref b :: As) S none S') (hd : decode (zcd M) pc = .ok (.invokespecial index, 3)) (hst : st = As.reverse ++ .ref b :: rest) (hn : As.length = n) (hro : (rest.map fun v => v.category).sum ≤ 8) (hR : zRR R M' d' 0 0 cn sn)
    (k : zW G M R F cn sn (pc + 3) lv (rest) (zhp sh S') sz) : zW G M R F cn sn pc lv st (zhp sh S) sz :=
  z_callI0 hlk (hc sz) hd hst hn hro hR k
theorem s_callI {M' : zM} {d' n index b : Nat} {As rest : List Value} {Q : Option Value → zSt → Prop} (hlk : zLI M.1 index M' n) (hc : zR G M' d' sh (.ref b :: As) S Q) (hd : decode (zcd M) pc = .ok (.invokespecial index, 3)) (hst : st = As.reverse ++ .ref b :: rest) (hn : As.length = n) (hro : (rest.map fun v => v.category).sum ≤ 8) (hR : zRR R M' d' 0 0 cn sn)
    (k : ∀ (r : Option Value) (S' : zSt), Q r S' → zW G M R F cn sn (pc + 3) lv (r.toList ++ rest) (zhp sh S') sz) : zW G M R F cn sn pc lv st (zhp sh S) sz :=
  z_callI hlk (hc sz) hd hst hn hro hR (fun r a z q => by obtain ⟨rfl, S', rfl, hq⟩ := q; exact k r S' hq)
/-- a contract: the answer outright, the store by a relation -/
abbrev zN (G : zG) (M : zM) (d : Nat) (sh : Nat → Option zSh) (av : List Value) (S : zSt) (r : Option Value) (Q : zSt → Prop) : Prop := zR G M d sh av S (fun r' S' => r' = r ∧ Q S')
theorem n_callV1 {M' : zM} {d' n ci index b : Nat} {fds : List (Option (Option Nat))} {As rest : List Value} {v : Value} {Q : zSt → Prop} (hlk : zLV M.1 index M' ci n) (hc : zN G M' d' sh (.ref b :: As) S (some v) Q) (hb : sh b = some (.inl (ci, fds))) (hd : decode (zcd M) pc = .ok (.invokevirtual index, 3)) (hst : st = As.reverse ++ .ref b :: rest) (hn : As.length = n) (hro : (rest.map fun v => v.category).sum ≤ 8) (hR : zRR R M' d' 0 0 cn sn)
    (k : ∀ S' : zSt, Q S' → zW G M R F cn sn (pc + 3) lv (v :: rest) (zhp sh S') sz) : zW G M R F cn sn pc lv st (zhp sh S) sz :=
  s_callV hlk hc hb hd hst hn hro hR (fun r S' q => by obtain ⟨rfl, hq⟩ := q; exact k S' hq)
theorem n_callV0 {M' : zM} {d' n ci index b : Nat} {fds : List (Option (Option Nat))} {As rest : List Value} {Q : zSt → Prop} (hlk : zLV M.1 index M' ci n) (hc : zN G M' d' sh (.ref b :: As) S none Q) (hb : sh b = some (.inl (ci, fds))) (hd : decode (zcd M) pc = .ok (.invokevirtual index, 3)) (hst : st = As.reverse ++ .ref b :: rest) (hn : As.length = n) (hro : (rest.map fun v => v.category).sum ≤ 8) (hR : zRR R M' d' 0 0 cn sn)
    (k : ∀ S' : zSt, Q S' → zW G M R F cn sn (pc + 3) lv (rest) (zhp sh S') sz) : zW G M R F cn sn pc lv st (zhp sh S) sz :=
  s_callV hlk hc hb hd hst hn hro hR (fun r S' q => by obtain ⟨rfl, hq⟩ := q; exact k S' hq)
theorem n_callS1 {M' : zM} {d' n index : Nat} {As rest : List Value} {v : Value} {Q : zSt → Prop} (hlk : zLS M.1 index M' n) (hc : zN G M' d' sh As S (some v) Q) (hd : decode (zcd M) pc = .ok (.invokestatic index, 3)) (hst : st = As.reverse ++ rest) (hn : As.length = n) (hro : (rest.map fun v => v.category).sum ≤ 8) (hR : zRR R M' d' 0 0 cn sn)
    (k : ∀ S' : zSt, Q S' → zW G M R F cn sn (pc + 3) lv (v :: rest) (zhp sh S') sz) : zW G M R F cn sn pc lv st (zhp sh S) sz :=
  s_callS hlk hc hd hst hn hro hR (fun r S' q => by obtain ⟨rfl, hq⟩ := q; exact k S' hq)
theorem n_callS0 {M' : zM} {d' n index : Nat} {As rest : List Value} {Q : zSt → Prop} (hlk : zLS M.1 index M' n) (hc : zN G M' d' sh As S none Q) (hd : decode (zcd M) pc = .ok (.invokestatic index, 3)) (hst : st = As.reverse ++ rest) (hn : As.length = n) (hro : (rest.map fun v => v.category).sum ≤ 8) (hR : zRR R M' d' 0 0 cn sn)
    (k : ∀ S' : zSt, Q S' → zW G M R F cn sn (pc + 3) lv (rest) (zhp sh S') sz) : zW G M R F cn sn pc lv st (zhp sh S) sz :=
  s_callS hlk hc hd hst hn hro hR (fun r S' q => by obtain ⟨rfl, hq⟩ := q; exact k S' hq)
theorem n_callI0 {M' : zM} {d' n index b : Nat} {As rest : List Value} {Q : zSt → Prop} (hlk : zLI M.1 index M' n) (hc : zN G M' d' sh (.ref b :: As) S none Q) (hd : decode (zcd M) pc = .ok (.invokespecial index, 3)) (hst : st = As.reverse ++ .ref b :: rest) (hn : As.length = n) (hro : (rest.map fun v => v.category).sum ≤ 8) (hR : zRR R M' d' 0 0 cn sn)
    (k : ∀ S' : zSt, Q S' → zW G M R F cn sn (pc + 3) lv (rest) (zhp sh S') sz) : zW G M R F cn sn pc lv st (zhp sh S) sz :=
  s_callI hlk hc hd hst hn hro hR (fun r S' q => by obtain ⟨rfl, hq⟩ := q; exact k S' hq)
end ZS
end
section
/-! ===== numbers: bits of a long ===== -/
def zo (b : Bool) : Int32 := if b then 1 else 0
theorem zo_t : zo true = 1 := rfl
theorem zo_f : zo false = 0 := rfl
theorem zo_eq0 {b : Bool} : zo b = 0 ↔ b = false := by cases b <;> decide
theorem zo_ne0 {b : Bool} : ¬ zo b = 0 ↔ b = true := by cases b <;> decide
theorem zo_inj {b c : Bool} : zo b = zo c ↔ b = c := by cases b <;> cases c <;> decide
theorem zo_nar {b : Bool} : narrow .boolean (.int (zo b)) = .int (zo b) := by cases b <;> rfl
theorem lgc0 {x y : Int64} : lg_cmp x y = 0 ↔ x = y := by
  unfold lg_cmp
  by_cases h : x > y
  · rw [if_pos h]
    refine ⟨fun q => absurd q (by decide), fun q => ?_⟩
    subst q
    exact absurd h (by simp [GT.gt])
  · rw [if_neg h]
    by_cases h2 : x = y
    · simp [h2]
    · rw [if_neg h2]
      exact ⟨fun q => absurd q (by decide), fun q => absurd q h2⟩
theorem p_Bits : plainName RX0 = true := by decide
theorem p_Groups : plainName RX1 = true := by decide
theorem p_Pairs : plainName RX2 = true := by decide
theorem p_Query : plainName RX3 = true := by decide
theorem p_Reader : plainName RX4 = true := by decide
theorem p_Rows : plainName RX5 = true := by decide
theorem p_State : plainName RX6 = true := by decide
theorem p_Tape : plainName RX7 = true := by decide
theorem p_Work : plainName RX8 = true := by decide
theorem p_RC : plainName RX9 = true := by decide
theorem p_Mo : plainName RX10 = true := by decide
theorem p_JLong : plainName RJ13 = true := by decide
theorem p_JStr : plainName RJ0 = true := by decide
theorem p_JLat : plainName RJ1 = true := by decide
theorem p_JArr : plainName RJ7 = true := by decide
theorem p_JPre : plainName RJ3 = true := by decide
/-- bit i of a long -/
def zw (x : Int64) (i : Nat) : Bool := x.toBitVec.getLsbD i
theorem zw_ext {x y : Int64} (h : ∀ i, i < 64 → zw x i = zw y i) : x = y := by
  apply Int64.toBitVec_inj.mp
  exact BitVec.eq_of_getLsbD_eq h
theorem zw_and (x y : Int64) (i : Nat) : zw (x &&& y) i = (zw x i && zw y i) := by
  simp [zw]
theorem zw_or (x y : Int64) (i : Nat) : zw (x ||| y) i = (zw x i || zw y i) := by
  simp [zw]
theorem zw_xor (x y : Int64) (i : Nat) : zw (x ^^^ y) i = (zw x i ^^ zw y i) := by
  simp [zw]
theorem zw_m1 (i : Nat) (h : i < 64) : zw (-1) i = true := by
  have : ∀ i, i < 64 → zw (-1) i = true := by decide +kernel
  exact this i h
theorem zw_0 (i : Nat) : zw 0 i = false := by simp [zw]
theorem zw_ge (x : Int64) {i : Nat} (h : 64 ≤ i) : zw x i = false := BitVec.getLsbD_of_ge _ _ h
theorem sh_amt : ∀ j, j < 128 → (((nI j) &&& 63).toInt64.toUInt64 &&& Int64.toUInt64 63) = UInt64.ofNat (j % 64) := by decide +kernel
theorem sh_amtl : ∀ j, j < 128 → (((nI j) &&& 63).toInt64 &&& 63) = Int64.ofNat (j % 64) := by decide +kernel
theorem zw_shr (x : Int64) {m : Nat} (hm : m < 64) (i : Nat) : zw (x.toUInt64 >>> UInt64.ofNat m).toInt64 i = zw x (m + i) := by
  unfold zw
  show ((x.toUInt64 >>> UInt64.ofNat m).toBitVec).getLsbD i = _
  rw [UInt64.toBitVec_shiftRight]
  have e : ((UInt64.ofNat m).toBitVec % 64).toNat = m := by
    simp
    omega
  rw [BitVec.ushiftRight_eq', e, BitVec.getLsbD_ushiftRight]
  rfl
theorem zw_shl (x : Int64) {m : Nat} (hm : m < 64) {i : Nat} (hi : i < 64) : zw (x <<< Int64.ofNat m) i = (decide (m ≤ i) && zw x (i - m)) := by
  unfold zw
  rw [Int64.toBitVec_shiftLeft]
  have e : ((Int64.ofNat m).toBitVec.smod 64).toNat = m := by
    have : ∀ m, m < 64 → ((Int64.ofNat m).toBitVec.smod 64).toNat = m := by decide +kernel
    exact this m hm
  rw [BitVec.shiftLeft_eq', e, BitVec.getLsbD_shiftLeft]
  by_cases h : m ≤ i
  · simp [h, hi, show ¬ i < m by omega]
  · simp [h, show i < m by omega]
theorem zw_1 (i : Nat) (h : i < 64) : zw 1 i = decide (i = 0) := by
  have : ∀ i, i < 64 → zw 1 i = decide (i = 0) := by decide +kernel
  exact this i h
theorem zw_bit0 (x : Int64) : (x &&& 1 = 0) ↔ zw x 0 = false := by
  constructor
  · intro h
    have h1 : zw (x &&& 1) 0 = zw 0 0 := by rw [h]
    rw [zw_and, zw_1 0 (by decide), zw_0] at h1
    simpa using h1
  · intro h
    refine zw_ext (fun i hi => ?_)
    rw [zw_and, zw_1 i hi, zw_0]
    by_cases h0 : i = 0
    · subst h0; simp [h]
    · simp [h0]
/-- what has() asks of a word -/
theorem has_eq (x : Int64) {j : Nat} (hj : j < 128) : ((x.toUInt64 >>> (((nI j) &&& 63).toInt64.toUInt64 &&& Int64.toUInt64 63)).toInt64 &&& 1 = 0) ↔ zw x (j % 64) = false := by
  rw [sh_amt j hj, zw_bit0, zw_shr x (Nat.mod_lt _ (by decide)), Nat.add_zero]
/-- bit j of a row of 128 bits -/
abbrev kB : zSh := .inl (0, [some none, some none])
def bq (S : zSt) (a j : Nat) : Bool := if j < 64 then zw (zl S a 0) j else zw (zl S a 1) (j - 64)
theorem nI_lt64 {j : Nat} (hj : j < 2 ^ 31) : ((64 : Int32) ≤ nI j) ↔ 64 ≤ j := nI_leI (a := 64) (by decide) hj
end
section
/-! plain facts to paste, each family by itself; over the kit's nI, lN and upd -/
/-! ===== drawers: more things than places ===== -/
theorem fb_holes : ∀ (m n : Nat) (f : Nat → Nat), (∀ i, i < n → f i < m) → (∀ i j, i < j → j < n → f i ≠ f j) → n ≤ m := by
  intro m
  induction m with
  | zero =>
    intro n f h1 _
    rcases Nat.eq_zero_or_pos n with h | h
    · omega
    · exact absurd (h1 0 h) (Nat.not_lt_zero _)
  | succ m ih =>
    intro n f h1 h2
    by_cases hx : ∃ i, i < n ∧ f i = m
    · obtain ⟨a, ha, hfa⟩ := hx
      have hg := ih (n - 1) (fun i => if i < a then f i else f (i + 1)) (by
        intro i hi
        by_cases q : i < a
        · simp only [if_pos q]
          have b1 := h1 i (by omega)
          have b2 := h2 i a q ha
          omega
        · simp only [if_neg q]
          have b1 := h1 (i + 1) (by omega)
          have b2 := h2 a (i + 1) (by omega) (by omega)
          omega) (by
        intro i j hij hj
        by_cases q : i < a
        · by_cases r : j < a
          · simp only [if_pos q, if_pos r]
            exact h2 i j hij (by omega)
          · simp only [if_pos q, if_neg r]
            exact h2 i (j + 1) (by omega) (by omega)
        · have r : ¬ j < a := by omega
          simp only [if_neg q, if_neg r]
          exact h2 (i + 1) (j + 1) (by omega) (by omega))
      omega
    · have hg := ih n f (fun i hi => by
        have b1 := h1 i hi
        have b2 : f i ≠ m := fun e => hx ⟨i, hi, e⟩
        omega) h2
      omega
/-- two of them in one place -/
theorem fb_twice {m n : Nat} {f : Nat → Nat} (h : ∀ i, i < n → f i < m) (hm : m < n) : ∃ i j, i < j ∧ j < n ∧ f i = f j := by
  refine Classical.byContradiction fun hx => ?_
  have := fb_holes m n f h (fun i j hij hj e => hx ⟨i, j, hij, hj, e⟩)
  omega
/-- as many as places, none twice: each place is taken -/
theorem fb_onto {n : Nat} {f : Nat → Nat} (h : ∀ i, i < n → f i < n) (h2 : ∀ i j, i < j → j < n → f i ≠ f j) {y : Nat} (hy : y < n) : ∃ i, i < n ∧ f i = y := by
  refine Classical.byContradiction fun hx => ?_
  have hne : ∀ i, i < n → f i ≠ y := fun i hi e => hx ⟨i, hi, e⟩
  have := fb_holes (n - 1) n (fun i => if f i < y then f i else f i - 1) (by
    intro i hi
    have b1 := h i hi
    have b2 := hne i hi
    by_cases q : f i < y
    · simp only [if_pos q]; omega
    · simp only [if_neg q]; omega) (by
    intro i j hij hj
    have b1 := hne i (by omega)
    have b2 := hne j hj
    have b3 := h2 i j hij hj
    by_cases q : f i < y
    · by_cases r : f j < y
      · simp only [if_pos q, if_pos r]; exact b3
      · simp only [if_pos q, if_neg r]; omega
    · by_cases r : f j < y
      · simp only [if_neg q, if_pos r]; omega
      · simp only [if_neg q, if_neg r]; omega)
  omega
/-! ===== how many places have a property ===== -/
def fb_ct (p : Nat → Bool) : Nat → Nat
  | 0 => 0
  | n + 1 => fb_ct p n + (if p n then 1 else 0)
theorem fb_ct_succ (p : Nat → Bool) (n : Nat) : fb_ct p (n + 1) = fb_ct p n + (if p n then 1 else 0) := rfl
theorem fb_ct_le (p : Nat → Bool) : ∀ n, fb_ct p n ≤ n
  | 0 => Nat.le_refl _
  | n + 1 => by
    have h := fb_ct_le p n
    rw [fb_ct_succ]
    split <;> omega
theorem fb_ct_step (p : Nat → Bool) (m : Nat) : ∀ n, fb_ct p m ≤ fb_ct p (m + n)
  | 0 => Nat.le_refl _
  | n + 1 => by
    have h := fb_ct_step p m n
    show fb_ct p m ≤ fb_ct p (m + n + 1)
    rw [fb_ct_succ]
    omega
theorem fb_ct_mono (p : Nat → Bool) {m n : Nat} (h : m ≤ n) : fb_ct p m ≤ fb_ct p n := by
  have := fb_ct_step p m (n - m)
  rwa [Nat.add_sub_cancel' h] at this
theorem fb_ct_cong {p q : Nat → Bool} : ∀ {n : Nat}, (∀ k, k < n → p k = q k) → fb_ct p n = fb_ct q n
  | 0, _ => rfl
  | n + 1, h => by
    rw [fb_ct_succ, fb_ct_succ, fb_ct_cong (fun k hk => h k (by omega)), h n (by omega)]
/-- one place changed -/
theorem fb_ct_out (p : Nat → Bool) (b : Bool) {i n : Nat} (h : n ≤ i) : fb_ct (fun k => if k = i then b else p k) n = fb_ct p n :=
  fb_ct_cong fun k hk => if_neg (by omega)
theorem fb_ct_upd (p : Nat → Bool) (b : Bool) {i : Nat} : ∀ {n : Nat}, i < n → fb_ct (fun k => if k = i then b else p k) n + (if p i then 1 else 0) = fb_ct p n + (if b then 1 else 0)
  | 0, h => absurd h (Nat.not_lt_zero i)
  | n + 1, h => by
    rw [fb_ct_succ, fb_ct_succ]
    rcases Nat.lt_or_ge i n with q | q
    · have := fb_ct_upd p b q
      have e : (if n = i then b else p n) = p n := if_neg (by omega)
      rw [e]
      omega
    · have e : i = n := by omega
      subst e
      rw [fb_ct_out p b (Nat.le_refl _)]
      simp only [if_true]
      omega
theorem fb_ct_sub {p q : Nat → Bool} : ∀ {n : Nat}, (∀ k, k < n → p k = true → q k = true) → fb_ct p n ≤ fb_ct q n
  | 0, _ => Nat.le_refl _
  | n + 1, h => by
    have h1 := fb_ct_sub (n := n) (p := p) (q := q) (fun k hk => h k (by omega))
    have h2 := h n (by omega)
    rw [fb_ct_succ, fb_ct_succ]
    cases hp : p n <;> cases hq : q n <;> simp_all <;> omega
theorem fb_ct_or {p q : Nat → Bool} : ∀ {n : Nat}, (∀ k, k < n → ¬ (p k = true ∧ q k = true)) → fb_ct (fun k => p k || q k) n = fb_ct p n + fb_ct q n
  | 0, _ => rfl
  | n + 1, h => by
    have h1 := fb_ct_or (n := n) (p := p) (q := q) (fun k hk => h k (by omega))
    have h2 := h n (by omega)
    rw [fb_ct_succ, fb_ct_succ, fb_ct_succ, h1]
    cases hp : p n <;> cases hq : q n <;> simp_all <;> omega
theorem fb_ct_not (p : Nat → Bool) : ∀ n, fb_ct p n + fb_ct (fun k => !p k) n = n
  | 0 => rfl
  | n + 1 => by
    have h := fb_ct_not p n
    rw [fb_ct_succ, fb_ct_succ]
    cases p n <;> simp <;> omega
theorem fb_ct_split (p : Nat → Bool) (m : Nat) : ∀ n, fb_ct p (m + n) = fb_ct p m + fb_ct (fun k => p (m + k)) n
  | 0 => rfl
  | n + 1 => by
    have h := fb_ct_split p m n
    show fb_ct p (m + n + 1) = _
    rw [fb_ct_succ, fb_ct_succ, h, Nat.add_assoc]
theorem fb_ct_zero {p : Nat → Bool} : ∀ {n : Nat}, fb_ct p n = 0 ↔ ∀ k, k < n → p k = false
  | 0 => ⟨fun _ k hk => absurd hk (Nat.not_lt_zero k), fun _ => rfl⟩
  | n + 1 => by
    have h := fb_ct_zero (p := p) (n := n)
    rw [fb_ct_succ]
    constructor
    · intro e k hk
      have e1 : fb_ct p n = 0 := by omega
      rcases Nat.lt_or_ge k n with q | q
      · exact h.mp e1 k q
      · have ek : k = n := by omega
        subst ek
        cases hp : p k
        · rfl
        · simp [hp] at e
    · intro a
      rw [h.mpr (fun k hk => a k (by omega)), a n (by omega)]
      rfl
theorem fb_ct_pos {p : Nat → Bool} {n : Nat} : 0 < fb_ct p n ↔ ∃ k, k < n ∧ p k = true := by
  constructor
  · intro h
    refine Classical.byContradiction fun hx => ?_
    have := fb_ct_zero.mpr (fun k hk => by
      cases hp : p k
      · rfl
      · exact absurd ⟨k, hk, hp⟩ hx : ∀ k, k < n → p k = false)
    omega
  · rintro ⟨k, hk, hp⟩
    rcases Nat.eq_zero_or_pos (fb_ct p n) with e | e
    · have := fb_ct_zero.mp e k hk
      rw [this] at hp
      cases hp
    · exact e
theorem fb_ct_all {p : Nat → Bool} {n : Nat} : fb_ct p n = n ↔ ∀ k, k < n → p k = true := by
  have h := fb_ct_not p n
  constructor
  · intro e k hk
    have z : fb_ct (fun k => !p k) n = 0 := by omega
    have := fb_ct_zero.mp z k hk
    cases hp : p k
    · simp [hp] at this
    · rfl
  · intro a
    have z : fb_ct (fun k => !p k) n = 0 := fb_ct_zero.mpr (fun k hk => by simp [a k hk])
    omega
/-- the k-th place with the property -/
theorem fb_ct_kth {p : Nat → Bool} {k : Nat} : ∀ {n : Nat}, k < fb_ct p n → ∃ i, i < n ∧ p i = true ∧ fb_ct p i = k
  | 0, h => absurd h (Nat.not_lt_zero k)
  | n + 1, h => by
    rcases Nat.lt_or_ge k (fb_ct p n) with q | q
    · obtain ⟨i, h1, h2⟩ := fb_ct_kth q
      exact ⟨i, by omega, h2⟩
    · rw [fb_ct_succ] at h
      cases hp : p n
      · simp [hp] at h; omega
      · simp [hp] at h
        exact ⟨n, by omega, hp, by omega⟩
theorem fb_ct_kth_one {p : Nat → Bool} {i j : Nat} (hi : p i = true) (hj : p j = true) (e : fb_ct p i = fb_ct p j) : i = j := by
  have key : ∀ a b : Nat, a < b → p a = true → fb_ct p a < fb_ct p b := by
    intro a b hab ha
    have h := fb_ct_mono p (show a + 1 ≤ b from hab)
    rw [fb_ct_succ, ha] at h
    simp at h
    omega
  rcases Nat.lt_trichotomy i j with q | q | q
  · have := key i j q hi; omega
  · exact q
  · have := key j i q hj; omega
/-! ===== sums over a range: one place changed, parts, bounds ===== -/
def fb_sm (f : Nat → Nat) : Nat → Nat
  | 0 => 0
  | n + 1 => fb_sm f n + f n
theorem fb_sm_succ (f : Nat → Nat) (n : Nat) : fb_sm f (n + 1) = fb_sm f n + f n := rfl
theorem fb_sm_cong {f g : Nat → Nat} : ∀ {n : Nat}, (∀ k, k < n → f k = g k) → fb_sm f n = fb_sm g n
  | 0, _ => rfl
  | n + 1, h => by rw [fb_sm_succ, fb_sm_succ, fb_sm_cong (fun k hk => h k (by omega)), h n (by omega)]
theorem fb_sm_out (f : Nat → Nat) (v : Nat) {i n : Nat} (h : n ≤ i) : fb_sm (fun k => if k = i then v else f k) n = fb_sm f n :=
  fb_sm_cong fun k hk => if_neg (by omega)
theorem fb_sm_upd (f : Nat → Nat) (v : Nat) {i : Nat} : ∀ {n : Nat}, i < n → fb_sm (fun k => if k = i then v else f k) n + f i = fb_sm f n + v
  | 0, h => absurd h (Nat.not_lt_zero i)
  | n + 1, h => by
    rw [fb_sm_succ, fb_sm_succ]
    rcases Nat.lt_or_ge i n with q | q
    · have := fb_sm_upd f v q
      have e : (if n = i then v else f n) = f n := if_neg (by omega)
      rw [e]
      omega
    · have e : i = n := by omega
      subst e
      rw [fb_sm_out f v (Nat.le_refl _)]
      simp only [if_true]
      omega
theorem fb_sm_add (f g : Nat → Nat) : ∀ n, fb_sm (fun k => f k + g k) n = fb_sm f n + fb_sm g n
  | 0 => rfl
  | n + 1 => by
    have h := fb_sm_add f g n
    rw [fb_sm_succ, fb_sm_succ, fb_sm_succ, h]
    omega
theorem fb_sm_le {f g : Nat → Nat} : ∀ {n : Nat}, (∀ k, k < n → f k ≤ g k) → fb_sm f n ≤ fb_sm g n
  | 0, _ => Nat.le_refl _
  | n + 1, h => by
    have h1 := fb_sm_le (n := n) (f := f) (g := g) (fun k hk => h k (by omega))
    have h2 := h n (by omega)
    rw [fb_sm_succ, fb_sm_succ]
    omega
theorem fb_sm_const (c : Nat) : ∀ n, fb_sm (fun _ => c) n = n * c
  | 0 => by rw [Nat.zero_mul]; rfl
  | n + 1 => by rw [fb_sm_succ, fb_sm_const c n, Nat.succ_mul]
theorem fb_sm_bound {f : Nat → Nat} {c n : Nat} (h : ∀ k, k < n → f k ≤ c) : fb_sm f n ≤ n * c := by
  rw [← fb_sm_const c n]
  exact fb_sm_le h
theorem fb_sm_mono (f : Nat → Nat) (m : Nat) : ∀ n, fb_sm f m ≤ fb_sm f (m + n)
  | 0 => Nat.le_refl _
  | n + 1 => by
    have h := fb_sm_mono f m n
    show fb_sm f m ≤ fb_sm f (m + n + 1)
    rw [fb_sm_succ]
    omega
theorem fb_sm_part (f : Nat → Nat) {i n : Nat} (h : i < n) : fb_sm f i + f i ≤ fb_sm f n := by
  have := fb_sm_mono f (i + 1) (n - (i + 1))
  rw [fb_sm_succ, show i + 1 + (n - (i + 1)) = n by omega] at this
  exact this
theorem fb_sm_split (f : Nat → Nat) (m : Nat) : ∀ n, fb_sm f (m + n) = fb_sm f m + fb_sm (fun k => f (m + k)) n
  | 0 => rfl
  | n + 1 => by
    have h := fb_sm_split f m n
    show fb_sm f (m + n + 1) = _
    rw [fb_sm_succ, fb_sm_succ, h, Nat.add_assoc]
theorem fb_sm_zero {f : Nat → Nat} {n : Nat} (h : fb_sm f n = 0) : ∀ k, k < n → f k = 0 := fun k hk => by
  have := fb_sm_part f hk
  omega
/-- the same over whole numbers -/
def fb_si (f : Nat → Int) : Nat → Int
  | 0 => 0
  | n + 1 => fb_si f n + f n
theorem fb_si_succ (f : Nat → Int) (n : Nat) : fb_si f (n + 1) = fb_si f n + f n := rfl
theorem fb_si_cong {f g : Nat → Int} : ∀ {n : Nat}, (∀ k, k < n → f k = g k) → fb_si f n = fb_si g n
  | 0, _ => rfl
  | n + 1, h => by rw [fb_si_succ, fb_si_succ, fb_si_cong (fun k hk => h k (by omega)), h n (by omega)]
theorem fb_si_out (f : Nat → Int) (v : Int) {i n : Nat} (h : n ≤ i) : fb_si (fun k => if k = i then v else f k) n = fb_si f n :=
  fb_si_cong fun k hk => if_neg (by omega)
theorem fb_si_upd (f : Nat → Int) (v : Int) {i : Nat} : ∀ {n : Nat}, i < n → fb_si (fun k => if k = i then v else f k) n = fb_si f n - f i + v
  | 0, h => absurd h (Nat.not_lt_zero i)
  | n + 1, h => by
    rw [fb_si_succ, fb_si_succ]
    rcases Nat.lt_or_ge i n with q | q
    · have := fb_si_upd f v q
      have e : (if n = i then v else f n) = f n := if_neg (by omega)
      rw [e]
      omega
    · have e : i = n := by omega
      subst e
      rw [fb_si_out f v (Nat.le_refl _)]
      simp only [if_true]
      omega
theorem fb_si_add (f g : Nat → Int) : ∀ n, fb_si (fun k => f k + g k) n = fb_si f n + fb_si g n
  | 0 => rfl
  | n + 1 => by
    have h := fb_si_add f g n
    rw [fb_si_succ, fb_si_succ, fb_si_succ, h]
    omega
theorem fb_si_sub (f g : Nat → Int) : ∀ n, fb_si (fun k => f k - g k) n = fb_si f n - fb_si g n
  | 0 => rfl
  | n + 1 => by
    have h := fb_si_sub f g n
    rw [fb_si_succ, fb_si_succ, fb_si_succ, h]
    omega
theorem fb_si_mul (c : Int) (f : Nat → Int) : ∀ n, fb_si (fun k => c * f k) n = c * fb_si f n
  | 0 => (Int.mul_zero c).symm
  | n + 1 => by
    have h := fb_si_mul c f n
    rw [fb_si_succ, fb_si_succ, h, Int.mul_add]
theorem fb_si_split (f : Nat → Int) (m : Nat) : ∀ n, fb_si f (m + n) = fb_si f m + fb_si (fun k => f (m + k)) n
  | 0 => (Int.add_zero _).symm
  | n + 1 => by
    have h := fb_si_split f m n
    show fb_si f (m + n + 1) = _
    rw [fb_si_succ, fb_si_succ, h, Int.add_assoc]
theorem fb_si_nat (f : Nat → Nat) : ∀ n, fb_si (fun k => (f k : Int)) n = (fb_sm f n : Int)
  | 0 => rfl
  | n + 1 => by
    have h := fb_si_nat f n
    rw [fb_si_succ, fb_sm_succ, h]
    omega
theorem fb_si_bound {f : Nat → Int} {c : Int} (hc : 0 ≤ c) : ∀ {n : Nat}, (∀ k, k < n → -c ≤ f k ∧ f k ≤ c) → -(n * c) ≤ fb_si f n ∧ fb_si f n ≤ n * c
  | 0, _ => by simp [fb_si]
  | n + 1, h => by
    have h1 := fb_si_bound (n := n) (f := f) hc (fun k hk => h k (by omega))
    have h2 := h n (by omega)
    have e : ((n + 1 : Nat) : Int) * c = n * c + c := by rw [Int.natCast_add, Int.add_mul]; simp
    rw [fb_si_succ, e]
    omega
/-! ===== bits of a long that isn't negative ===== -/
theorem fb_andL (a b : Nat) : lN a &&& lN b = lN (a &&& b) := by
  apply Int64.toBitVec_inj.1
  show BitVec.ofNat 64 a &&& BitVec.ofNat 64 b = BitVec.ofNat 64 (a &&& b)
  apply BitVec.eq_of_getLsbD_eq
  intro i hi
  simp [hi]
theorem fb_orL (a b : Nat) : lN a ||| lN b = lN (a ||| b) := by
  apply Int64.toBitVec_inj.1
  show BitVec.ofNat 64 a ||| BitVec.ofNat 64 b = BitVec.ofNat 64 (a ||| b)
  apply BitVec.eq_of_getLsbD_eq
  intro i hi
  simp [hi]
theorem fb_xorL (a b : Nat) : lN a ^^^ lN b = lN (a ^^^ b) := by
  apply Int64.toBitVec_inj.1
  show BitVec.ofNat 64 a ^^^ BitVec.ofNat 64 b = BitVec.ofNat 64 (a ^^^ b)
  apply BitVec.eq_of_getLsbD_eq
  intro i hi
  simp [hi]
theorem fb_xorI (a b : Nat) : nI a ^^^ nI b = nI (a ^^^ b) := by
  apply Int32.toBitVec_inj.1
  show BitVec.ofNat 32 a ^^^ BitVec.ofNat 32 b = BitVec.ofNat 32 (a ^^^ b)
  apply BitVec.eq_of_getLsbD_eq
  intro i hi
  simp [hi]
theorem fb_maskL (n k : Nat) : lN n &&& lN (2 ^ k - 1) = lN (n % 2 ^ k) := by rw [fb_andL, Nat.and_two_pow_sub_one_eq_mod]
theorem fb_or_sumL {a k : Nat} (b : Nat) (h : a < 2 ^ k) : lN (2 ^ k * b) ||| lN a = lN (2 ^ k * b + a) := by rw [fb_orL, Nat.two_pow_add_eq_or_of_lt h]
theorem fb_lN_inj {a b : Nat} (ha : a < 2 ^ 63) (hb : b < 2 ^ 63) : lN a = lN b ↔ a = b := by
  constructor
  · intro h
    have h1 : (BitVec.ofNat 64 a).toNat = (BitVec.ofNat 64 b).toNat := congrArg (fun x : Int64 => x.toBitVec.toNat) h
    rw [BitVec.toNat_ofNat, BitVec.toNat_ofNat, Nat.mod_eq_of_lt (by omega), Nat.mod_eq_of_lt (by omega)] at h1
    exact h1
  · rintro rfl; rfl
theorem fb_bit_nat (n j : Nat) : n &&& 2 ^ j = 0 ↔ n.testBit j = false := by
  constructor
  · intro h
    have h1 : (n &&& 2 ^ j).testBit j = false := by rw [h]; simp
    rw [Nat.testBit_and] at h1
    simpa using h1
  · intro h
    apply Nat.eq_of_testBit_eq
    intro i
    rw [Nat.testBit_and]
    by_cases hi : j = i
    · subst hi; simp [h]
    · first | (simp [Nat.testBit_two_pow, hi]; done) | (simp [Nat.testBit_two_pow_of_ne hi]; done)
/-- one bit of a long -/
theorem fb_bitL {n j : Nat} (hj : j < 63) : lN n &&& lN (2 ^ j) = 0 ↔ n.testBit j = false := by
  have h2 : (2 : Nat) ^ j < 2 ^ 63 := Nat.pow_lt_pow_right (by decide) hj
  have hle : n &&& 2 ^ j ≤ 2 ^ j := Nat.and_le_right
  rw [fb_andL, ← fb_bit_nat, show (0 : Int64) = lN 0 from rfl]
  exact fb_lN_inj (by omega) (by decide)
/-- a bit set, a bit taken off -/
theorem fb_bit_set (n j i : Nat) : (n ||| 2 ^ j).testBit i = (n.testBit i || decide (i = j)) := by
  rw [Nat.testBit_or]
  by_cases h : j = i
  · subst h; simp
  · have h2 : ¬ i = j := fun e => h e.symm
    first | (simp [Nat.testBit_two_pow, h, h2]; done) | (simp [Nat.testBit_two_pow_of_ne h, h2]; done)
theorem fb_bit_flip (n j i : Nat) : (n ^^^ 2 ^ j).testBit i = (n.testBit i ^^ decide (i = j)) := by
  rw [Nat.testBit_xor]
  by_cases h : j = i
  · subst h; simp
  · have h2 : ¬ i = j := fun e => h e.symm
    first | (simp [Nat.testBit_two_pow, h, h2]; done) | (simp [Nat.testBit_two_pow_of_ne h, h2]; done)
/-! ===== a stretch of an array written over by a function ===== -/
def fb_put {α : Type} (f g : Nat → α) (a n : Nat) : Nat → α := fun k => if a ≤ k ∧ k < a + n then g (k - a) else f k
theorem fb_put_0 {α : Type} (f g : Nat → α) (a : Nat) : fb_put f g a 0 = f := funext fun k => if_neg (by omega)
theorem fb_put_in {α : Type} {f g : Nat → α} {a n k : Nat} (h1 : a ≤ k) (h2 : k < a + n) : fb_put f g a n k = g (k - a) := if_pos ⟨h1, h2⟩
theorem fb_put_out {α : Type} {f g : Nat → α} {a n k : Nat} (h : k < a ∨ a + n ≤ k) : fb_put f g a n k = f k := if_neg (by omega)
theorem fb_put_succ (f g : Nat → Int32) (a n : Nat) : upd (fb_put f g a n) (a + n) (g n) = fb_put f g a (n + 1) := by
  funext k
  by_cases h : k = a + n
  · subst h
    simp [upd, fb_put]
  · by_cases h1 : a ≤ k ∧ k < a + n
    · have h2 : a ≤ k ∧ k < a + (n + 1) := by omega
      simp only [upd, fb_put, if_neg h, if_pos h1, if_pos h2]
    · have h2 : ¬ (a ≤ k ∧ k < a + (n + 1)) := by omega
      simp only [upd, fb_put, if_neg h, if_neg h1, if_neg h2]
/-- .. from the far end down -/
theorem fb_put_down (f g : Nat → Int32) {a n m : Nat} (h : m < n) : upd (fb_put f (fun k => g (k + (m + 1))) (a + (m + 1)) (n - (m + 1))) (a + m) (g m) = fb_put f (fun k => g (k + m)) (a + m) (n - m) := by
  funext k
  by_cases h0 : k = a + m
  · subst h0
    simp only [upd, if_true]
    rw [fb_put_in (by omega) (by omega)]
    exact congrArg g (by omega)
  · simp only [upd, if_neg h0]
    by_cases h1 : a + (m + 1) ≤ k ∧ k < a + (m + 1) + (n - (m + 1))
    · rw [fb_put_in h1.1 h1.2, fb_put_in (by omega) (by omega)]
      exact congrArg g (by omega)
    · rw [fb_put_out (by omega), fb_put_out (by omega)]
theorem fb_put_cong {α : Type} {f f2 g g2 : Nat → α} {a n : Nat} (hf : ∀ k, (k < a ∨ a + n ≤ k) → f k = f2 k) (hg : ∀ k, k < n → g k = g2 k) : fb_put f g a n = fb_put f2 g2 a n := by
  funext k
  by_cases h : a ≤ k ∧ k < a + n
  · rw [fb_put_in h.1 h.2, fb_put_in h.1 h.2, hg _ (by omega)]
  · rw [fb_put_out (by omega), fb_put_out (by omega), hf _ (by omega)]
/-! ===== the least, the first, the best so far; that there is one alone ===== -/
theorem fb_first {p : Nat → Prop} [DecidablePred p] : ∀ {n : Nat}, (∃ i, i < n ∧ p i) → ∃ i, i < n ∧ p i ∧ ∀ j, j < i → ¬ p j
  | 0, h => by obtain ⟨i, hi, -⟩ := h; exact absurd hi (Nat.not_lt_zero i)
  | n + 1, h => by
    by_cases q : ∃ i, i < n ∧ p i
    · obtain ⟨i, h1, h2⟩ := fb_first q
      exact ⟨i, by omega, h2⟩
    · obtain ⟨i, h1, h2⟩ := h
      have e : i = n := by
        rcases Nat.lt_or_ge i n with r | r
        · exact absurd ⟨i, r, h2⟩ q
        · omega
      subst e
      exact ⟨i, by omega, h2, fun j hj hp => q ⟨j, hj, hp⟩⟩
theorem fb_first_one {p : Nat → Prop} {i j : Nat} (hi : p i) (hi2 : ∀ k, k < i → ¬ p k) (hj : p j) (hj2 : ∀ k, k < j → ¬ p k) : i = j := by
  rcases Nat.lt_trichotomy i j with q | q | q
  · exact absurd hi (hj2 i q)
  · exact q
  · exact absurd hj (hi2 j q)
theorem fb_last {p : Nat → Prop} [DecidablePred p] : ∀ {n : Nat}, (∃ i, i < n ∧ p i) → ∃ i, i < n ∧ p i ∧ ∀ j, i < j → j < n → ¬ p j
  | 0, h => by obtain ⟨i, hi, -⟩ := h; exact absurd hi (Nat.not_lt_zero i)
  | n + 1, h => by
    by_cases q : p n
    · exact ⟨n, by omega, q, fun j h1 h2 => by omega⟩
    · obtain ⟨i, h1, h2⟩ := h
      have hi : i < n := by
        rcases Nat.lt_or_ge i n with r | r
        · exact r
        · have e : i = n := by omega
          subst e
          exact absurd h2 q
      obtain ⟨i2, a1, a2, a3⟩ := fb_last (n := n) ⟨i, hi, h2⟩
      refine ⟨i2, by omega, a2, fun j b1 b2 => ?_⟩
      rcases Nat.lt_or_ge j n with r | r
      · exact a3 j b1 r
      · have e : j = n := by omega
        subst e
        exact q
/-- the first greatest -/
theorem fb_best (f : Nat → Int) : ∀ {n : Nat}, 0 < n → ∃ i, i < n ∧ (∀ j, j < n → f j ≤ f i) ∧ ∀ j, j < i → f j < f i
  | 0, h => absurd h (Nat.lt_irrefl 0)
  | 1, _ => ⟨0, by omega, fun j hj => by have e : j = 0 := by omega
                                         subst e; exact Int.le_refl _, fun j hj => absurd hj (Nat.not_lt_zero j)⟩
  | n + 2, _ => by
    obtain ⟨i, h1, h2, h3⟩ := fb_best f (n := n + 1) (by omega)
    by_cases q : f i < f (n + 1)
    · refine ⟨n + 1, by omega, fun j hj => ?_, fun j hj => ?_⟩
      · rcases Nat.lt_or_ge j (n + 1) with r | r
        · have := h2 j r; omega
        · have e : j = n + 1 := by omega
          subst e; exact Int.le_refl _
      · have := h2 j hj; omega
    · refine ⟨i, by omega, fun j hj => ?_, h3⟩
      rcases Nat.lt_or_ge j (n + 1) with r | r
      · exact h2 j r
      · have e : j = n + 1 := by omega
        subst e; omega
theorem fb_best_one {f : Nat → Int} {n i j : Nat} (hi : i < n) (hi2 : ∀ k, k < n → f k ≤ f i) (hi3 : ∀ k, k < i → f k < f i) (hj : j < n) (hj2 : ∀ k, k < n → f k ≤ f j) (hj3 : ∀ k, k < j → f k < f j) : i = j := by
  rcases Nat.lt_trichotomy i j with q | q | q
  · have a := hj3 i q
    have b := hi2 j hj
    omega
  · exact q
  · have a := hi3 j q
    have b := hj2 i hi
    omega
/-- the first least -/
theorem fb_low (f : Nat → Int) {n : Nat} (h : 0 < n) : ∃ i, i < n ∧ (∀ j, j < n → f i ≤ f j) ∧ ∀ j, j < i → f i < f j := by
  obtain ⟨i, h1, h2, h3⟩ := fb_best (fun k => -f k) h
  exact ⟨i, h1, fun j hj => by have := h2 j hj; omega, fun j hj => by have := h3 j hj; omega⟩
/-! ===== signed ints as whole numbers, within bounds ===== -/
theorem fb_rng (x : Int32) : -2147483648 ≤ x.toInt ∧ x.toInt < 2147483648 := by
  have h1 := Int32.le_toInt x
  have h2 := Int32.toInt_lt x
  omega
theorem fb_bmod {z : Int} (h1 : -2147483648 ≤ z) (h2 : z < 2147483648) : z.bmod (2 ^ 32) = z := by
  rw [Int.bmod_eq_of_le (by omega) (by omega)]
theorem fb_addI {x y : Int32} (h1 : -2147483648 ≤ x.toInt + y.toInt) (h2 : x.toInt + y.toInt < 2147483648) : (x + y).toInt = x.toInt + y.toInt := by
  rw [Int32.toInt_add, fb_bmod h1 h2]
theorem fb_subI {x y : Int32} (h1 : -2147483648 ≤ x.toInt - y.toInt) (h2 : x.toInt - y.toInt < 2147483648) : (x - y).toInt = x.toInt - y.toInt := by
  rw [Int32.toInt_sub, fb_bmod h1 h2]
theorem fb_mulI {x y : Int32} (h1 : -2147483648 ≤ x.toInt * y.toInt) (h2 : x.toInt * y.toInt < 2147483648) : (x * y).toInt = x.toInt * y.toInt := by
  rw [Int32.toInt_mul, fb_bmod h1 h2]
theorem fb_negI {x : Int32} (h : x.toInt ≠ -2147483648) : (-x).toInt = -x.toInt := by
  have := fb_rng x
  rw [Int32.toInt_neg, fb_bmod (by omega) (by omega)]
theorem fb_ofI {z : Int} (h1 : -2147483648 ≤ z) (h2 : z < 2147483648) : (Int32.ofInt z).toInt = z := by
  rw [Int32.toInt_ofInt, fb_bmod h1 h2]
theorem fb_asI (x : Int32) : Int32.ofInt x.toInt = x := Int32.ofInt_toInt x
theorem fb_rngL (x : Int64) : -9223372036854775808 ≤ x.toInt ∧ x.toInt < 9223372036854775808 := by
  have h1 := Int64.le_toInt x
  have h2 := Int64.toInt_lt x
  omega
theorem fb_bmodL {z : Int} (h1 : -9223372036854775808 ≤ z) (h2 : z < 9223372036854775808) : z.bmod (2 ^ 64) = z := by
  rw [Int.bmod_eq_of_le (by omega) (by omega)]
theorem fb_addL {x y : Int64} (h1 : -9223372036854775808 ≤ x.toInt + y.toInt) (h2 : x.toInt + y.toInt < 9223372036854775808) : (x + y).toInt = x.toInt + y.toInt := by
  rw [Int64.toInt_add, fb_bmodL h1 h2]
theorem fb_subL {x y : Int64} (h1 : -9223372036854775808 ≤ x.toInt - y.toInt) (h2 : x.toInt - y.toInt < 9223372036854775808) : (x - y).toInt = x.toInt - y.toInt := by
  rw [Int64.toInt_sub, fb_bmodL h1 h2]
theorem fb_mulL {x y : Int64} (h1 : -9223372036854775808 ≤ x.toInt * y.toInt) (h2 : x.toInt * y.toInt < 9223372036854775808) : (x * y).toInt = x.toInt * y.toInt := by
  rw [Int64.toInt_mul, fb_bmodL h1 h2]
/-! ===== cuts of what is narrow already ===== -/
theorem fb_byte {x : Int32} (h1 : -128 ≤ x.toInt) (h2 : x.toInt < 128) : x.toInt8.toInt32 = x := by
  apply Int32.toInt_inj.1
  rw [Int8.toInt_toInt32, Int32.toInt_toInt8, Int.bmod_eq_of_le (by omega) (by omega)]
theorem fb_short {x : Int32} (h1 : -32768 ≤ x.toInt) (h2 : x.toInt < 32768) : x.toInt16.toInt32 = x := by
  apply Int32.toInt_inj.1
  rw [Int16.toInt_toInt32, Int32.toInt_toInt16, Int.bmod_eq_of_le (by omega) (by omega)]
theorem fb_byte_rng (x : Int32) : -128 ≤ x.toInt8.toInt32.toInt ∧ x.toInt8.toInt32.toInt < 128 := by
  rw [Int8.toInt_toInt32]
  have h1 := Int8.le_toInt x.toInt8
  have h2 := Int8.toInt_lt x.toInt8
  omega
theorem fb_short_rng (x : Int32) : -32768 ≤ x.toInt16.toInt32.toInt ∧ x.toInt16.toInt32.toInt < 32768 := by
  rw [Int16.toInt_toInt32]
  have h1 := Int16.le_toInt x.toInt16
  have h2 := Int16.toInt_lt x.toInt16
  omega
theorem fb_byte_twice (x : Int32) : x.toInt8.toInt32.toInt8.toInt32 = x.toInt8.toInt32 := fb_byte (fb_byte_rng x).1 (fb_byte_rng x).2
theorem fb_short_twice (x : Int32) : x.toInt16.toInt32.toInt16.toInt32 = x.toInt16.toInt32 := fb_short (fb_short_rng x).1 (fb_short_rng x).2
theorem fb_char {n : Nat} (h : n < 65536) : (nI n).toUInt32.toUInt16.toUInt32.toInt32 = nI n := by
  apply Int32.toBitVec_inj.1
  apply BitVec.eq_of_toNat_eq
  have e1 : (nI n).toBitVec.toNat = n := by
    show (BitVec.ofNat 32 n).toNat = n
    rw [BitVec.toNat_ofNat, Nat.mod_eq_of_lt (by omega)]
  have e2 : ((nI n).toUInt32.toUInt16.toUInt32).toNat = n := by
    rw [UInt16.toNat_toUInt32, UInt32.toNat_toUInt16]
    show (nI n).toBitVec.toNat % 2 ^ 16 = n
    rw [e1, Nat.mod_eq_of_lt (by omega)]
  rw [e1]
  exact e2
end
section
/-! rows on bits, shifts and unsigned numbers, to paste: each family out of a closed proof of our own, whole with what it rests on; each by itself clean at Lean in its own claim (generation 39, form 5). Take a family whole -/
/-! ===== Int32 by its bits: bt x i ===== -/
def bt (x : Int32) (i : Nat) : Bool := x.toBitVec.getLsbD i
theorem b_ext {x y : Int32} (h : ∀ i, i < 32 → bt x i = bt y i) : x = y := Int32.toBitVec_inj.mp (BitVec.eq_of_getLsbD_eq (fun i hi => h i hi))
theorem b_or (x y : Int32) (i : Nat) : bt (x ||| y) i = (bt x i || bt y i) := by unfold bt; rw [Int32.toBitVec_or, BitVec.getLsbD_or]
theorem b_and (x y : Int32) (i : Nat) : bt (x &&& y) i = (bt x i && bt y i) := by unfold bt; rw [Int32.toBitVec_and, BitVec.getLsbD_and]
theorem b_xor (x y : Int32) (i : Nat) : bt (x ^^^ y) i = (bt x i ^^ bt y i) := by unfold bt; rw [Int32.toBitVec_xor, BitVec.getLsbD_xor]
theorem b_big {x : Int32} {i : Nat} (h : 32 ≤ i) : bt x i = false := BitVec.getLsbD_of_ge _ _ h
theorem b_255 (i : Nat) : bt 255 i = decide (i < 8) := by
  rcases Nat.lt_or_ge i 32 with h | h
  · exact (by decide +kernel : ∀ i, i < 32 → bt 255 i = decide (i < 8)) i h
  · rw [b_big h, decide_eq_false (by omega)]
theorem b_65535 (i : Nat) : bt 65535 i = decide (i < 16) := by
  rcases Nat.lt_or_ge i 32 with h | h
  · exact (by decide +kernel : ∀ i, i < 32 → bt 65535 i = decide (i < 16)) i h
  · rw [b_big h, decide_eq_false (by omega)]
theorem b_m1 : ∀ i, i < 32 → bt (-1) i = true := by decide +kernel
theorem b_0 (i : Nat) : bt 0 i = false := BitVec.getLsbD_zero
theorem s_l : ∀ n, n < 32 → ((nI n &&& 31).toBitVec.smod 32).toNat = n := by decide +kernel
theorem s_u : ∀ n, n < 32 → (((nI n).toUInt32 &&& Int32.toUInt32 31).toBitVec % 32).toNat = n := by decide +kernel
theorem b_shl (n : Nat) (hn : n < 32) (x : Int32) {i : Nat} (hi : i < 32) : bt (x <<< (nI n &&& 31)) i = (decide (n ≤ i) && bt x (i - n)) := by
  unfold bt
  rw [Int32.toBitVec_shiftLeft]
  show (x.toBitVec <<< ((nI n &&& 31).toBitVec.smod 32).toNat).getLsbD i = _
  rw [s_l n hn, BitVec.getLsbD_shiftLeft]
  rcases Nat.lt_or_ge i n with h | h
  · simp [h, Nat.not_le.mpr h]
  · simp [hi, h, Nat.not_lt.mpr h]
theorem b_ushr (n : Nat) (hn : n < 32) (x : Int32) (i : Nat) : bt ((x.toUInt32 >>> ((nI n).toUInt32 &&& Int32.toUInt32 31)).toInt32) i = bt x (n + i) := by
  show (x.toUInt32 >>> ((nI n).toUInt32 &&& Int32.toUInt32 31)).toBitVec.getLsbD i = x.toUInt32.toBitVec.getLsbD (n + i)
  rw [UInt32.toBitVec_shiftRight]
  show (x.toUInt32.toBitVec >>> (((nI n).toUInt32 &&& Int32.toUInt32 31).toBitVec % 32).toNat).getLsbD i = _
  rw [s_u n hn, BitVec.getLsbD_ushiftRight]
theorem b_sshr (n : Nat) (hn : n < 32) (x : Int32) {i : Nat} (hi : i < 32) : bt (x >>> (nI n &&& 31)) i = if n + i < 32 then bt x (n + i) else bt x 31 := by
  unfold bt
  rw [Int32.toBitVec_shiftRight]
  show (x.toBitVec.sshiftRight ((nI n &&& 31).toBitVec.smod 32).toNat).getLsbD i = _
  rw [s_l n hn, BitVec.getLsbD_sshiftRight, BitVec.msb_eq_getLsbD_last]
  simp [hi]
theorem b_shl8 (x : Int32) {i : Nat} (hi : i < 32) : bt (x <<< ((8 : Int32) &&& 31)) i = (decide (8 ≤ i) && bt x (i - 8)) := b_shl 8 (by omega) x hi
theorem b_shl16 (x : Int32) {i : Nat} (hi : i < 32) : bt (x <<< ((16 : Int32) &&& 31)) i = (decide (16 ≤ i) && bt x (i - 16)) := b_shl 16 (by omega) x hi
theorem b_shl24 (x : Int32) {i : Nat} (hi : i < 32) : bt (x <<< ((24 : Int32) &&& 31)) i = (decide (24 ≤ i) && bt x (i - 24)) := b_shl 24 (by omega) x hi
theorem b_sshr8 (x : Int32) {i : Nat} (hi : i < 32) : bt (x >>> ((8 : Int32) &&& 31)) i = if 8 + i < 32 then bt x (8 + i) else bt x 31 := b_sshr 8 (by omega) x hi
/-! ===== nI under and, xor, >>>, one bit, 65535 ===== -/
theorem nx_and (a b : Nat) : nI a &&& nI b = nI (a &&& b) := by
  apply Int32.toBitVec_inj.1
  show BitVec.ofNat 32 a &&& BitVec.ofNat 32 b = BitVec.ofNat 32 (a &&& b)
  apply BitVec.eq_of_getLsbD_eq
  intro i hi
  simp [hi]
theorem nx_xor (a b : Nat) : nI a ^^^ nI b = nI (a ^^^ b) := by
  apply Int32.toBitVec_inj.1
  show BitVec.ofNat 32 a ^^^ BitVec.ofNat 32 b = BitVec.ofNat 32 (a ^^^ b)
  apply BitVec.eq_of_getLsbD_eq
  intro i hi
  simp [hi]
theorem nx_cnt : ∀ j : Fin 32, (UInt32.ofNat j.val &&& Int32.toUInt32 31).toNat % 32 = j.val := by decide +kernel
theorem nx_ush {k j : Nat} (hk : k < 65536) (hj : j < 32) : ((nI k).toUInt32 >>> ((nI j).toUInt32 &&& Int32.toUInt32 31)).toInt32 = nI (k >>> j) := by
  have hs : k >>> j ≤ k := by
    rw [Nat.shiftRight_eq_div_pow]
    exact Nat.div_le_self _ _
  have e2 : UInt32.ofNat k >>> (UInt32.ofNat j &&& Int32.toUInt32 31) = UInt32.ofNat (k >>> j) := by
    apply UInt32.toNat_inj.1
    have h1 : (UInt32.ofNat k).toNat = k := Nat.mod_eq_of_lt (by omega)
    have h2 : (UInt32.ofNat (k >>> j)).toNat = k >>> j := Nat.mod_eq_of_lt (by omega)
    rw [UInt32.toNat_shiftRight, nx_cnt ⟨j, hj⟩, h1, h2]
  show (UInt32.ofNat k >>> (UInt32.ofNat j &&& Int32.toUInt32 31)).toInt32 = _
  rw [e2]
  rfl
theorem nx_bit {k j : Nat} (hk : k < 65536) (hj : j < 16) : (((nI k).toUInt32 >>> ((nI j).toUInt32 &&& Int32.toUInt32 31)).toInt32 &&& 1) = 0 ↔ k.testBit j = false := by
  rw [nx_ush hk (by omega)]
  show nI (k >>> j) &&& nI 1 = 0 ↔ _
  rw [nx_and, Nat.and_one_is_mod, ← nI_0, nI_eq (by omega) (by omega), Nat.testBit_eq_decide_div_mod_eq, Nat.shiftRight_eq_div_pow, decide_eq_false_iff_not]
  generalize k / 2 ^ j = z
  omega
theorem nx_mod (k : Nat) : nI k &&& 65535 = nI (k % 65536) := by
  show nI k &&& nI 65535 = _
  rw [nx_and, show (65535 : Nat) = 2 ^ 16 - 1 from rfl, Nat.and_two_pow_sub_one_eq_mod]
theorem nx_m16 {k : Nat} (h : k < 65536) : nI k &&& 65535 = nI k := by rw [nx_mod, Nat.mod_eq_of_lt h]
theorem nx_mask (x : Int32) : ∃ k, k < 65536 ∧ x &&& 65535 = nI k := by
  have e : x = nI x.toBitVec.toNat := by
    apply Int32.toBitVec_inj.1
    show x.toBitVec = BitVec.ofNat 32 x.toBitVec.toNat
    simp
  refine ⟨x.toBitVec.toNat % 65536, Nat.mod_lt _ (by omega), ?_⟩
  rw [← nx_mod, ← e]
/-! ===== Int32 as a set of bits: test, set ===== -/
def nf_M (m : Int32) : Nat := 4294967296 - m.toBitVec.toNat
theorem nf_sh : ∀ l, l < 32 → ((1 : Int32) <<< (nI l &&& 31)).toBitVec = BitVec.twoPow 32 l := by decide +kernel
theorem nf_sl : ∀ l, l < 32 → (((nI l).toUInt32 &&& Int32.toUInt32 31).toBitVec % 32).toNat = l := by decide +kernel
theorem nf_tp : ∀ l, l < 32 → BitVec.twoPow 32 l ≠ 0#32 := by decide +kernel
theorem nf_bit (m : Int32) (l : Nat) (hl : l < 32) : ((m.toUInt32 >>> ((nI l).toUInt32 &&& Int32.toUInt32 31)).toInt32 &&& 1) = 0 ↔ (m &&& ((1 : Int32) <<< (nI l &&& 31))) = 0 := by
  have e : ((m.toUInt32 >>> ((nI l).toUInt32 &&& Int32.toUInt32 31)).toInt32).toBitVec = m.toBitVec >>> l := by
    show m.toBitVec >>> (((nI l).toUInt32 &&& Int32.toUInt32 31).toBitVec % 32) = m.toBitVec >>> l
    rw [BitVec.ushiftRight_eq', nf_sl l hl]
  rw [← Int32.toBitVec_inj, ← Int32.toBitVec_inj, Int32.toBitVec_and, Int32.toBitVec_and, nf_sh l hl, e, BitVec.and_twoPow]
  show (m.toBitVec >>> l &&& 1#32) = 0#32 ↔ _ = 0#32
  rw [BitVec.and_one_eq_setWidth_ofBool_getLsbD, BitVec.getLsbD_ushiftRight, Nat.add_zero]
  cases hb : m.toBitVec.getLsbD l
  · exact ⟨fun _ => by simp, fun _ => by decide⟩
  · exact ⟨fun z => absurd z (by decide), fun z => absurd ((if_pos rfl).symm.trans z) (nf_tp l hl)⟩
theorem nf_gr (m k : Int32) (h : m &&& k = 0) (hk : k ≠ 0) : nf_M (m ||| k) < nf_M m := by
  have hm := m.toBitVec.isLt
  have hm' := (m ||| k).toBitVec.isLt
  have h1 : m.toBitVec.toNat ≤ (m ||| k).toBitVec.toNat := by
    rw [Int32.toBitVec_or, BitVec.toNat_or]
    exact Nat.left_le_or
  have h2 : m.toBitVec.toNat ≠ (m ||| k).toBitVec.toNat := by
    intro e
    have e2 : m = m ||| k := Int32.toBitVec_inj.mp (BitVec.eq_of_toNat_eq e)
    apply hk
    apply Int32.toBitVec_inj.mp
    show k.toBitVec = 0#32
    apply BitVec.eq_of_getLsbD_eq
    intro i hi
    have a : m.toBitVec.getLsbD i = (m.toBitVec.getLsbD i || k.toBitVec.getLsbD i) := by rw [← BitVec.getLsbD_or, ← Int32.toBitVec_or, ← e2]
    have b : (m.toBitVec.getLsbD i && k.toBitVec.getLsbD i) = false := by
      rw [← BitVec.getLsbD_and, ← Int32.toBitVec_and, h]
      exact BitVec.getLsbD_zero
    rw [BitVec.getLsbD_zero]
    revert a b
    cases m.toBitVec.getLsbD i <;> cases k.toBitVec.getLsbD i <;> simp
  unfold nf_M
  omega
/-! ===== a byte read unsigned ===== -/
theorem bp_b (x : Int32) : x.toInt8.toInt32 &&& 255 = x &&& 255 := by
  apply Int32.toBitVec_inj.mp
  rw [Int32.toBitVec_and, Int32.toBitVec_and, Int8.toBitVec_toInt32, Int32.toBitVec_toInt8]
  apply BitVec.eq_of_getLsbD_eq
  intro i hi
  rw [BitVec.getLsbD_and, BitVec.getLsbD_and]
  have hm : ∀ i < 32, 8 ≤ i → (255 : Int32).toBitVec.getLsbD i = false := by decide
  rcases Nat.lt_or_ge i 8 with z | z
  · rw [BitVec.getLsbD_signExtend, BitVec.getLsbD_signExtend, if_pos z, if_pos hi]
    simp only [z, hi, decide_true, Bool.true_and]
  · rw [hm i hi z]; simp
/-! ===== the char cast and 65535 ===== -/
/-! ===== Int64 as a set of bits: test, set, clear ===== -/
theorem ts_nf {x : Bool} (h : ¬ x = false) : x = true := by cases x <;> first | rfl | exact absurd rfl h
theorem ts_nt {x : Bool} (h : ¬ x = true) : x = false := by cases x <;> first | rfl | exact absurd rfl h
theorem ts_bit {w : Int64} {s : UInt64} {j : Nat} (hj : j < 64) (hs : s.toNat = j) : ((w.toUInt64 >>> s).toInt64 &&& 1) = 0 ↔ w.toBitVec.getLsbD j = false := by
  have e : (w.toUInt64 >>> s).toInt64.toBitVec = w.toBitVec >>> j := by
    apply BitVec.eq_of_toNat_eq
    show (w.toUInt64 >>> s).toNat = _
    rw [UInt64.toNat_shiftRight, hs, Nat.mod_eq_of_lt hj, BitVec.toNat_ushiftRight]
    rfl
  rw [← Int64.toBitVec_inj, Int64.toBitVec_and, e]
  show w.toBitVec >>> j &&& 1#64 = 0#64 ↔ _
  constructor
  · intro h
    have t := congrArg (fun x => x.getLsbD 0) h
    simpa using t
  · intro h
    apply BitVec.eq_of_getLsbD_eq
    intro i hi
    cases i with
    | zero => simp [h]
    | succ i => simp
theorem ts_or {w m : Int64} {j : Nat} (hj : j < 64) (hm : m.toBitVec = BitVec.twoPow 64 j) : (w ||| m) = w ↔ w.toBitVec.getLsbD j = true := by
  rw [← Int64.toBitVec_inj, Int64.toBitVec_or, hm]
  constructor
  · intro h
    have t := congrArg (fun x => x.getLsbD j) h
    simp only [BitVec.getLsbD_or, BitVec.getLsbD_twoPow] at t
    simpa [hj] using t.symm
  · intro h
    apply BitVec.eq_of_getLsbD_eq
    intro i hi
    rw [BitVec.getLsbD_or, BitVec.getLsbD_twoPow]
    by_cases e : j = i
    · subst e; rw [h, Bool.true_or]
    · simp [e]
theorem ts_and {w m : Int64} {j : Nat} (hj : j < 64) (hm : m.toBitVec = BitVec.twoPow 64 j) : (w &&& (m ^^^ (-1))) = w ↔ w.toBitVec.getLsbD j = false := by
  have ha : (-1 : Int64).toBitVec = BitVec.allOnes 64 := by decide
  rw [← Int64.toBitVec_inj, Int64.toBitVec_and, Int64.toBitVec_xor, hm, ha]
  constructor
  · intro h
    have t := congrArg (fun x => x.getLsbD j) h
    simp only [BitVec.getLsbD_and, BitVec.getLsbD_xor, BitVec.getLsbD_twoPow, BitVec.getLsbD_allOnes] at t
    simpa [hj] using t.symm
  · intro h
    apply BitVec.eq_of_getLsbD_eq
    intro i hi
    rw [BitVec.getLsbD_and, BitVec.getLsbD_xor, BitVec.getLsbD_twoPow, BitVec.getLsbD_allOnes]
    by_cases e : j = i
    · subst e; rw [h, Bool.false_and]
    · simp [e, hi]
/-! ===== lN n to 2^64: shifts, and, or, masks, one bit ===== -/
theorem wb_tb (n : Nat) : (lN n).toBitVec = BitVec.ofNat 64 n := rfl
theorem wb_inj {a b : Int64} (h : a.toBitVec = b.toBitVec) : a = b := Int64.toBitVec_inj.mp h
theorem wb_tn {n : Nat} (h : n < 2 ^ 64) : (lN n).toBitVec.toNat = n := by rw [wb_tb, BitVec.toNat_ofNat, Nat.mod_eq_of_lt h]
theorem wb_of (x : Int64) : ∃ n, n < 2 ^ 64 ∧ x = lN n := ⟨x.toBitVec.toNat, x.toBitVec.isLt, wb_inj (by rw [wb_tb]; simp)⟩
theorem wb_of32 (x : Int32) : ∃ n, n < 2 ^ 32 ∧ x = nI n := ⟨x.toBitVec.toNat, x.toBitVec.isLt, Int32.toBitVec_inj.mp (by show _ = BitVec.ofNat 32 _; simp)⟩
theorem wb_c : ∀ k, k < 64 → ((nI k).toInt64 &&& 63) = lN k := by decide +kernel
theorem wb_cu : ∀ k, k < 64 → ((nI k).toInt64.toUInt64 &&& Int64.toUInt64 63) = UInt64.ofNat k := by decide +kernel
theorem wb_sm : ∀ k, k < 64 → (BitVec.ofNat 64 k).smod 64 = BitVec.ofNat 64 k := by decide +kernel
theorem wb_pw {a b : Nat} (h : a ≤ b) : 2 ^ b = 2 ^ a * 2 ^ (b - a) := by rw [← Nat.pow_add]; congr 1; omega
theorem wb_lt2 {a b : Nat} (h : a < b) : 2 ^ a < 2 ^ b := Nat.pow_lt_pow_right (by decide) h
theorem wb_mod (n : Nat) : lN n = lN (n % 2 ^ 64) := wb_inj (by rw [wb_tb, wb_tb]; apply BitVec.eq_of_toNat_eq; rw [BitVec.toNat_ofNat, BitVec.toNat_ofNat, Nat.mod_mod])
theorem wb_shr {n k : Nat} (hn : n < 2 ^ 64) (hk : k < 64) : ((lN n).toUInt64 >>> ((nI k).toInt64.toUInt64 &&& Int64.toUInt64 63)).toInt64 = lN (n / 2 ^ k) := by
  rw [wb_cu k hk]
  apply wb_inj
  apply BitVec.eq_of_toNat_eq
  show ((lN n).toUInt64 >>> UInt64.ofNat k).toNat = (BitVec.ofNat 64 _).toNat
  have h1 : (UInt64.ofNat k).toNat = k := by
    show (BitVec.ofNat 64 k).toNat = k
    rw [BitVec.toNat_ofNat, Nat.mod_eq_of_lt (by omega)]
  have h2 : (lN n).toUInt64.toNat = n := wb_tn hn
  rw [UInt64.toNat_shiftRight, h1, h2, Nat.mod_eq_of_lt hk, Nat.shiftRight_eq_div_pow, BitVec.toNat_ofNat, Nat.mod_eq_of_lt (Nat.lt_of_le_of_lt (Nat.div_le_self _ _) hn)]
theorem wb_shl (n : Nat) {k : Nat} (hk : k < 64) : lN n <<< ((nI k).toInt64 &&& 63) = lN (n * 2 ^ k) := by
  rw [wb_c k hk]
  apply wb_inj
  rw [Int64.toBitVec_shiftLeft, wb_tb, wb_tb, wb_tb, wb_sm k hk]
  apply BitVec.eq_of_toNat_eq
  rw [BitVec.shiftLeft_eq', BitVec.toNat_shiftLeft, BitVec.toNat_ofNat, BitVec.toNat_ofNat, BitVec.toNat_ofNat, Nat.mod_eq_of_lt (show k < 2 ^ 64 by omega), Nat.shiftLeft_eq, Nat.mul_mod, Nat.mod_mod, ← Nat.mul_mod]
theorem wb_and {a b : Nat} (ha : a < 2 ^ 64) (hb : b < 2 ^ 64) : lN a &&& lN b = lN (a &&& b) := by
  apply wb_inj
  rw [Int64.toBitVec_and, wb_tb, wb_tb, wb_tb]
  apply BitVec.eq_of_toNat_eq
  rw [BitVec.toNat_and, BitVec.toNat_ofNat, BitVec.toNat_ofNat, BitVec.toNat_ofNat, Nat.mod_eq_of_lt ha, Nat.mod_eq_of_lt hb, Nat.mod_eq_of_lt (Nat.and_lt_two_pow _ hb)]
theorem wb_or {a b : Nat} (ha : a < 2 ^ 64) (hb : b < 2 ^ 64) : lN a ||| lN b = lN (a ||| b) := by
  apply wb_inj
  rw [Int64.toBitVec_or, wb_tb, wb_tb, wb_tb]
  apply BitVec.eq_of_toNat_eq
  rw [BitVec.toNat_or, BitVec.toNat_ofNat, BitVec.toNat_ofNat, BitVec.toNat_ofNat, Nat.mod_eq_of_lt ha, Nat.mod_eq_of_lt hb, Nat.mod_eq_of_lt (Nat.or_lt_two_pow ha hb)]
theorem wb_mask {n k : Nat} (hn : n < 2 ^ 64) (hk : k < 64) : lN n &&& lN (2 ^ k - 1) = lN (n % 2 ^ k) := by
  rw [wb_and hn (by have := wb_lt2 hk; omega), Nat.and_two_pow_sub_one_eq_mod]
theorem wb_a1 {n : Nat} (hn : n < 2 ^ 64) : lN n &&& 1 = lN (n % 2) := wb_mask (k := 1) hn (by decide)
theorem wb_bit {n k : Nat} (hn : n < 2 ^ 64) (hk : k < 64) : ((lN n).toUInt64 >>> ((nI k).toInt64.toUInt64 &&& Int64.toUInt64 63)).toInt64 &&& 1 = lN (n / 2 ^ k % 2) := by
  rw [wb_shr hn hk, wb_a1 (Nat.lt_of_le_of_lt (Nat.div_le_self _ _) hn)]
theorem wb_xor {q k : Nat} (hk : k < 63) (h : 2 ^ k ≤ q) (h2 : q < 2 ^ (k + 1)) : lN q ^^^ lN (2 ^ k) = lN (q - 2 ^ k) := by
  obtain ⟨r, rfl⟩ : ∃ r, q = 2 ^ k + r := ⟨q - 2 ^ k, by omega⟩
  have hr : r < 2 ^ k := by rw [Nat.pow_succ] at h2; omega
  have hx : (2 ^ k + r) ^^^ 2 ^ k = r := by
    apply Nat.eq_of_testBit_eq
    intro i
    rw [Nat.testBit_xor, Nat.testBit_two_pow]
    rcases Nat.lt_trichotomy i k with h | h | h
    · rw [Nat.testBit_two_pow_add_gt h]
      simp [show ¬ k = i by omega]
    · subst h
      rw [Nat.testBit_two_pow_add_eq]
      simp
    · have a1 : 2 ^ (k + 1) ≤ 2 ^ i := Nat.pow_le_pow_right (by decide) h
      rw [Nat.testBit_lt_two_pow (show 2 ^ k + r < 2 ^ i by omega), Nat.testBit_lt_two_pow (show r < 2 ^ i by omega)]
      simp [show ¬ k = i by omega]
  have b1 := wb_lt2 (show k + 1 < 64 by omega)
  have b2 := wb_lt2 (show k < 64 by omega)
  apply wb_inj
  rw [Int64.toBitVec_xor, wb_tb, wb_tb, wb_tb]
  apply BitVec.eq_of_toNat_eq
  rw [BitVec.toNat_xor, BitVec.toNat_ofNat, BitVec.toNat_ofNat, BitVec.toNat_ofNat, Nat.mod_eq_of_lt (by omega : 2 ^ k + r < 2 ^ 64), Nat.mod_eq_of_lt b2, hx, Nat.add_sub_cancel_left, Nat.mod_eq_of_lt (by omega)]
/-! ===== lN: masks, 'or' of parts that don't overlap is a sum ===== -/
theorem u_tn {n : Nat} (h : n < 2 ^ 64) : (UInt64.ofNat n).toNat = n := Nat.mod_eq_of_lt h
theorem g_and {a b c : Nat} (ha : a < 2 ^ 64) (hb : b < 2 ^ 64) (hc : a &&& b = c) : lN a &&& lN b = lN c := by
  subst hc
  have h : UInt64.ofNat a &&& UInt64.ofNat b = UInt64.ofNat (a &&& b) := UInt64.toNat_inj.mp (by rw [UInt64.toNat_and, u_tn ha, u_tn hb, u_tn (Nat.and_lt_two_pow a hb)])
  have h2 := congrArg UInt64.toInt64 h
  exact h2
theorem g_and1 {a : Nat} (ha : a < 2 ^ 64) : lN a &&& 1 = lN (a % 2) := g_and (b := 1) ha (by decide) (Nat.and_two_pow_sub_one_eq_mod a 1)
theorem g_mask {a s p : Nat} (hp : 2 ^ s = p) (hs : s < 64) (ha : a < 2 ^ 64) : lN a &&& lN (p - 1) = lN (a % p) := by
  subst hp
  have := Nat.pow_lt_pow_right (show 1 < 2 by decide) hs
  exact g_and ha (by omega) (Nat.and_two_pow_sub_one_eq_mod a s)
theorem g_or {k p a b : Nat} (hp : 2 ^ k = p) (ha : a < p) (h : b * p + a < 2 ^ 64) : lN (b * p) ||| lN a = lN (b * p + a) := by
  subst hp
  have h1 : b * 2 ^ k ||| a = b * 2 ^ k + a := by rw [← Nat.shiftLeft_eq, Nat.shiftLeft_add_eq_or_of_lt ha]
  have h3 : UInt64.ofNat (b * 2 ^ k) ||| UInt64.ofNat a = UInt64.ofNat (b * 2 ^ k + a) := UInt64.toNat_inj.mp (by rw [UInt64.toNat_or, u_tn (by omega), u_tn (by omega), u_tn h, h1])
  have h2 := congrArg UInt64.toInt64 h3
  exact h2
theorem g_or' {k p a b : Nat} (hp : 2 ^ k = p) (ha : a < p) (h : a + b * p < 2 ^ 64) : lN a ||| lN (b * p) = lN (a + b * p) := by
  rw [Int64.or_comm, g_or hp ha (by omega), Nat.add_comm]
theorem g_ushr {a k p : Nat} {y : UInt64} (hy : y = UInt64.ofNat k) (hk : k < 64) (hp : 2 ^ k = p) (ha : a < 2 ^ 64) : ((lN a).toUInt64 >>> y).toInt64 = lN (a / p) := by
  subst hy hp
  have h : UInt64.ofNat a >>> UInt64.ofNat k = UInt64.ofNat (a / 2 ^ k) := UInt64.toNat_inj.mp (by rw [UInt64.toNat_shiftRight, u_tn ha, u_tn (by omega), u_tn (Nat.lt_of_le_of_lt (Nat.div_le_self _ _) ha), Nat.mod_eq_of_lt hk, Nat.shiftRight_eq_div_pow])
  have h2 := congrArg UInt64.toInt64 h
  exact h2
theorem g_shl {a k p : Nat} {y : Int64} (hy : y.toBitVec.smod 64 = BitVec.ofNat 64 k) (hk : k < 64) (hp : 2 ^ k = p) (ha : a < 2 ^ 64) : lN a <<< y = lN (a * p) := by
  subst hp
  apply Int64.toBitVec_inj.mp
  rw [Int64.toBitVec_shiftLeft, hy]
  apply BitVec.eq_of_toNat_eq
  have hb : (lN a).toBitVec.toNat = a := Nat.mod_eq_of_lt ha
  have hk' : (BitVec.ofNat 64 k).toNat = k := Nat.mod_eq_of_lt (by omega)
  have h : ((lN a).toBitVec <<< BitVec.ofNat 64 k).toNat = (a * 2 ^ k) % 2 ^ 64 := by simp only [BitVec.shiftLeft_eq', BitVec.toNat_shiftLeft, hb, hk', Nat.shiftLeft_eq]
  exact h
/-! ===== lN to 2^62 under >> and >>> ===== -/
theorem pf_lI {a : Nat} (h : a < 2 ^ 63) : (lN a).toInt = (a : Int) := lg_ofNat_toInt h
theorem pf_shr {a d : Nat} {D : Int64} (hD : (D.toBitVec.smod 64).toNat = d) (h : a < 2 ^ 62) : lN a >>> D = lN (a / 2 ^ d) := by
  have hd : a / 2 ^ d ≤ a := Nat.div_le_self _ _
  apply Int64.toInt_inj.mp
  have e : (lN a >>> D).toInt = (lN a).toInt >>> d := by
    rw [← hD]
    exact BitVec.toInt_sshiftRight ..
  rw [e, Int.shiftRight_eq_div_pow, pf_lI (by omega), pf_lI (by omega)]
  rfl
theorem pf_ushr {a d : Nat} {D : UInt64} (hD : D.toNat % 64 = d) (h : a < 2 ^ 62) : ((lN a).toUInt64 >>> D).toInt64 = lN (a / 2 ^ d) := by
  have hd : a / 2 ^ d ≤ a := Nat.div_le_self _ _
  have e : (lN a).toUInt64 >>> D = UInt64.ofNat (a / 2 ^ d) := UInt64.toNat_inj.mp (by
    rw [UInt64.toNat_shiftRight, hD, Nat.shiftRight_eq_div_pow, UInt64.toNat_ofNat']
    show (UInt64.ofNat a).toNat / 2 ^ d = _
    rw [UInt64.toNat_ofNat', Nat.mod_eq_of_lt (by omega), Nat.mod_eq_of_lt (by omega)])
  rw [e]
  rfl
theorem pf_andw (x : Int64) : ∃ m, m < 2 ^ 32 ∧ x &&& 4294967295 = lN m := ⟨x.toBitVec.toNat % 2 ^ 32, Nat.mod_lt _ (by decide), Int64.toBitVec_inj.mp (BitVec.eq_of_toNat_eq (by
  show (x.toBitVec &&& 4294967295#64).toNat = (BitVec.ofNat 64 (x.toBitVec.toNat % 2 ^ 32)).toNat
  rw [BitVec.toNat_and, show (4294967295#64).toNat = 2 ^ 32 - 1 from by decide, Nat.and_two_pow_sub_one_eq_mod, BitVec.toNat_ofNat]
  omega))⟩
/-! ===== Int64 as an unsigned number: uN x ===== -/
def uN (x : Int64) : Nat := x.toUInt64.toNat
theorem uN_lt (x : Int64) : uN x < 18446744073709551616 := x.toUInt64.toNat_lt
theorem uN_inj {x y : Int64} (h : uN x = uN y) : x = y := congrArg UInt64.toInt64 (UInt64.toNat_inj.mp h)
theorem uN_add (x y : Int64) : uN (x + y) = (uN x + uN y) % 18446744073709551616 := by
  show (x.toUInt64 + y.toUInt64).toNat = _
  exact UInt64.toNat_add _ _
theorem uN_mul (x y : Int64) : uN (x * y) = (uN x * uN y) % 18446744073709551616 := by
  show (x.toUInt64 * y.toUInt64).toNat = _
  exact UInt64.toNat_mul _ _
theorem uN_shl (x : Int64) : uN (x <<< ((1 : Int32).toInt64 &&& 63)) = (2 * uN x) % 18446744073709551616 := by
  have h : (((1 : Int32).toInt64 &&& 63).toBitVec.smod 64).toNat = 1 := by decide
  show (x.toBitVec <<< (((1 : Int32).toInt64 &&& 63).toBitVec.smod 64).toNat).toNat = _
  rw [h, BitVec.toNat_shiftLeft, Nat.shiftLeft_eq, Nat.mul_comm]
  rfl
theorem uN_shr (x : Int64) (s : UInt64) : uN (x.toUInt64 >>> s).toInt64 = uN x / 2 ^ (s.toNat % 64) := by
  show (x.toUInt64 >>> s).toNat = _
  rw [UInt64.toNat_shiftRight, Nat.shiftRight_eq_div_pow]
  rfl
theorem uN_s32 (x : Int64) : uN (x.toUInt64 >>> ((32 : Int32).toInt64.toUInt64 &&& Int64.toUInt64 63)).toInt64 = uN x / 4294967296 := by
  have h : ((32 : Int32).toInt64.toUInt64 &&& Int64.toUInt64 63).toNat % 64 = 32 := by decide
  rw [uN_shr, h]
theorem uN_s63 (x : Int64) : uN (x.toUInt64 >>> ((63 : Int32).toInt64.toUInt64 &&& Int64.toUInt64 63)).toInt64 = uN x / 9223372036854775808 := by
  have h : ((63 : Int32).toInt64.toUInt64 &&& Int64.toUInt64 63).toNat % 64 = 63 := by decide
  rw [uN_shr, h]
theorem uN_lo (x : Int64) : uN (x &&& 4294967295) = uN x % 4294967296 := by
  show (x.toUInt64 &&& Int64.toUInt64 4294967295).toNat = _
  rw [UInt64.toNat_and]
  exact Nat.and_two_pow_sub_one_eq_mod _ 32
theorem uN_bit (x : Int64) : (x &&& 1) = 0 ↔ uN x % 2 = 0 := by
  have h : uN (x &&& 1) = uN x % 2 := by
    show (x.toUInt64 &&& Int64.toUInt64 1).toNat = _
    rw [UInt64.toNat_and]
    exact Nat.and_two_pow_sub_one_eq_mod _ 1
  rw [← h]
  exact ⟨fun z => by rw [z]; rfl, fun z => uN_inj (z.trans rfl)⟩
theorem uN_or {x y : Int64} (hy : uN y < 2) : uN ((x <<< ((1 : Int32).toInt64 &&& 63)) ||| y) = (2 * uN x) % 18446744073709551616 + uN y := by
  have h1 : uN ((x <<< ((1 : Int32).toInt64 &&& 63)) ||| y) = uN (x <<< ((1 : Int32).toInt64 &&& 63)) ||| uN y := UInt64.toNat_or _ _
  have h2 : (2 * uN x) % 18446744073709551616 = 2 ^ 1 * (uN x % 9223372036854775808) := by omega
  rw [h1, uN_shl, h2]
  exact (Nat.two_pow_add_eq_or_of_lt (i := 1) hy _).symm
theorem nat_xor {a : Nat} (h : a < 18446744073709551616) : a ^^^ 2 ^ 63 = (a + 9223372036854775808) % 18446744073709551616 := by
  have h1 : (a ^^^ 2 ^ 63) % 2 ^ 63 = a % 2 ^ 63 := by rw [Nat.xor_mod_two_pow, Nat.mod_self, Nat.xor_zero]
  have h2 : (a ^^^ 2 ^ 63) / 2 ^ 63 = (a / 2 ^ 63) ^^^ 1 := by rw [Nat.xor_div_two_pow, Nat.div_self (Nat.two_pow_pos 63)]
  have h3 : a / 2 ^ 63 = 0 ∨ a / 2 ^ 63 = 1 := by omega
  generalize a ^^^ 2 ^ 63 = t at h1 h2
  rcases h3 with h3 | h3
  · rw [h3] at h2
    have h2 : t / 2 ^ 63 = 1 := h2
    omega
  · rw [h3] at h2
    have h2 : t / 2 ^ 63 = 0 := h2
    omega
theorem uN_xor (x : Int64) : uN (x ^^^ (-9223372036854775808)) = (uN x + 9223372036854775808) % 18446744073709551616 := by
  rw [← nat_xor (uN_lt x)]
  exact UInt64.toNat_xor _ _
theorem uN_int (x : Int64) : x.toInt = if 2 * uN x < 18446744073709551616 then (uN x : Int) else (uN x : Int) - 18446744073709551616 := BitVec.toInt_eq_toNat_cond _
theorem uN_le (x y : Int64) : (x ^^^ (-9223372036854775808)) ≤ (y ^^^ (-9223372036854775808)) ↔ uN x ≤ uN y := by
  have hx := uN_lt x
  have hy := uN_lt y
  rw [Int64.le_iff_toInt_le, uN_int, uN_int, uN_xor, uN_xor]
  omega
theorem uN_sk (x : Int64) {k : Nat} (hk : k < 64) : uN (x.toUInt64 >>> ((nI k).toInt64.toUInt64 &&& Int64.toUInt64 63)).toInt64 = uN x / 2 ^ k := by
  have h : ((nI k).toInt64.toUInt64 &&& Int64.toUInt64 63).toNat % 64 = k := by
    rw [nI_l (by omega), UInt64.toNat_and]
    have e : (lN k).toUInt64.toNat = k % 2 ^ 64 := rfl
    have e2 : (Int64.toUInt64 63).toNat = 2 ^ 6 - 1 := by decide
    rw [e, e2, Nat.and_two_pow_sub_one_eq_mod]
    omega
  rw [uN_shr, h]
/-! ===== unsigned comparison by xor with the least ===== -/
theorem lN_bv (n : Nat) : (lN n).toBitVec = BitVec.ofNat 64 n := rfl
theorem lN_nat {n : Nat} (h : n < 2 ^ 64) : (lN n).toBitVec.toNat = n := by rw [lN_bv, BitVec.toNat_ofNat]; exact Nat.mod_eq_of_lt h
theorem lN_xor (a b : Nat) : lN a ^^^ lN b = lN (a ^^^ b) := by
  apply Int64.toBitVec_inj.mp; rw [Int64.toBitVec_xor, lN_bv, lN_bv, lN_bv]; apply BitVec.eq_of_getLsbD_eq; intro i hi; simp [BitVec.getLsbD_ofNat, Nat.testBit_xor, hi]
theorem lN_ti {m : Nat} (h : m < 2 ^ 64) : (lN m).toInt = if m < 2 ^ 63 then (m : Int) else (m : Int) - 2 ^ 64 := by
  have c := BitVec.toInt_eq_toNat_cond (lN m).toBitVec
  rw [lN_nat h] at c
  show (lN m).toBitVec.toInt = _
  rw [c]
  split <;> split <;> omega
theorem xor63 {x : Nat} (h : x < 2 ^ 63) : x ^^^ 2 ^ 63 = 2 ^ 63 + x := by
  apply Nat.eq_of_testBit_eq
  intro i
  rw [Nat.testBit_xor, Nat.testBit_two_pow]
  rcases Nat.lt_trichotomy i 63 with z | z | z
  · rw [Nat.testBit_two_pow_add_gt z, decide_eq_false (by omega)]; simp
  · subst z; rw [Nat.testBit_two_pow_add_eq]; simp
  · have hp : 2 ^ 64 ≤ 2 ^ i := Nat.pow_le_pow_right (by decide) z
    rw [Nat.testBit_lt_two_pow (show x < 2 ^ i by omega), Nat.testBit_lt_two_pow (show 2 ^ 63 + x < 2 ^ i by omega), decide_eq_false (by omega)]; rfl
theorem xorS {a : Nat} (h : a < 2 ^ 64) : (lN a ^^^ (-9223372036854775808)).toInt = (a : Int) - 2 ^ 63 := by
  rw [show (-9223372036854775808 : Int64) = lN (2 ^ 63) from by decide +kernel, lN_xor]
  rcases Nat.lt_or_ge a (2 ^ 63) with z | z
  · rw [xor63 z, lN_ti (by omega), if_neg (by omega)]; omega
  · obtain ⟨x, rfl⟩ : ∃ x, a = 2 ^ 63 + x := ⟨a - 2 ^ 63, by omega⟩
    rw [← xor63 (by omega), Nat.xor_assoc, Nat.xor_self, Nat.xor_zero, lN_ti (by omega), if_pos (by omega), xor63 (by omega)]; omega
theorem ultL {a b : Nat} (ha : a < 2 ^ 64) (hb : b < 2 ^ 64) : ((lN b ^^^ (-9223372036854775808)) ≤ (lN a ^^^ (-9223372036854775808))) ↔ b ≤ a := by
  rw [Int64.le_iff_toInt_le, xorS ha, xorS hb]; omega
/-! ===== Int64 masks of n low bits ===== -/
theorem cr_bits (W U M : BitVec 64) : ((W &&& U) &&& (U &&& (M ^^^ BitVec.allOnes 64))) = 0#64 ↔ (W &&& U) &&& M = W &&& U := by
  constructor
  · intro h
    apply BitVec.eq_of_getLsbD_eq
    intro i hi
    have e := congrArg (fun x => BitVec.getLsbD x i) h
    simp only [BitVec.getLsbD_and, BitVec.getLsbD_xor, BitVec.getLsbD_allOnes, BitVec.getLsbD_zero, hi, decide_true] at e ⊢
    revert e
    cases W.getLsbD i <;> cases U.getLsbD i <;> cases M.getLsbD i <;> decide
  · intro h
    apply BitVec.eq_of_getLsbD_eq
    intro i hi
    have e := congrArg (fun x => BitVec.getLsbD x i) h
    simp only [BitVec.getLsbD_and, BitVec.getLsbD_xor, BitVec.getLsbD_allOnes, BitVec.getLsbD_zero, hi, decide_true] at e ⊢
    revert e
    cases W.getLsbD i <;> cases U.getLsbD i <;> cases M.getLsbD i <;> decide
theorem cr_mask (w U m : Int64) (n : Nat) (hm : m.toBitVec.toNat = 2 ^ n - 1) : ((w &&& U) &&& (U &&& (m ^^^ (-1)))) = 0 ↔ (w &&& U).toBitVec.toNat < 2 ^ n := by
  have e0 : (-1 : Int64).toBitVec = BitVec.allOnes 64 := by decide
  have z0 : (0 : Int64).toBitVec = 0#64 := by decide
  rw [← Int64.toBitVec_inj, z0, Int64.toBitVec_and, Int64.toBitVec_and, Int64.toBitVec_and, Int64.toBitVec_xor, e0, cr_bits]
  generalize w.toBitVec &&& U.toBitVec = T
  rw [← BitVec.toNat_inj, BitVec.toNat_and, hm, Nat.and_two_pow_sub_one_eq_mod]
  constructor
  · intro h
    have t := Nat.mod_lt T.toNat (Nat.two_pow_pos n)
    rw [h] at t
    exact t
  · exact Nat.mod_eq_of_lt
theorem cr_shr (t : Int64) (x : UInt64) (n : Nat) (hx : x.toNat % 64 = n) : (t.toUInt64 >>> x).toInt64 = 0 ↔ t.toBitVec.toNat < 2 ^ n := by
  rw [← Int64.toBitVec_inj, ← BitVec.toNat_inj]
  show (t.toUInt64 >>> x).toNat = 0 ↔ t.toUInt64.toNat < 2 ^ n
  rw [UInt64.toNat_shiftRight, hx, Nat.shiftRight_eq_div_pow]
  constructor
  · intro h
    have d : t.toUInt64.toNat / 2 ^ n < 1 := by
      rw [h]
      decide
    have e := (Nat.div_lt_iff_lt_mul (Nat.two_pow_pos n)).mp d
    rw [Nat.one_mul] at e
    exact e
  · exact Nat.div_eq_of_lt
theorem cr_amt (s : Int64) : ∃ n, n < 64 ∧ s &&& 63 = lN n ∧ (s.toUInt64 &&& Int64.toUInt64 63).toNat % 64 = n := by
  have e : (s.toUInt64 &&& Int64.toUInt64 63).toNat = s.toUInt64.toNat % 2 ^ 6 := by
    rw [UInt64.toNat_and, show (Int64.toUInt64 63).toNat = 2 ^ 6 - 1 from by decide, Nat.and_two_pow_sub_one_eq_mod]
  refine ⟨s.toUInt64.toNat % 2 ^ 6, by omega, ?_, by omega⟩
  rw [← Int64.toBitVec_inj, ← BitVec.toNat_inj]
  show (s.toUInt64 &&& Int64.toUInt64 63).toNat = (BitVec.ofNat 64 (s.toUInt64.toNat % 2 ^ 6)).toNat
  rw [e, BitVec.toNat_ofNat]
  omega
end
section
/-! ===== bitCount: a word by its bytes ===== -/
def by8 (f : Nat → Nat) : Nat → Nat
  | 0 => 0
  | k + 1 => 2 ^ (8 * k) * f k + by8 f k
theorem by8_lt {f : Nat → Nat} (hf : ∀ i, f i < 256) : ∀ k, by8 f k < 2 ^ (8 * k)
  | 0 => by simp [by8]
  | k + 1 => by
    have h1 := by8_lt hf k
    have h2 := hf k
    show 2 ^ (8 * k) * f k + by8 f k < _
    have e : 2 ^ (8 * (k + 1)) = 2 ^ (8 * k) * 256 := by rw [show 8 * (k + 1) = 8 * k + 8 by omega, Nat.pow_add]
    rw [e]
    have h3 : 2 ^ (8 * k) * f k + 2 ^ (8 * k) ≤ 2 ^ (8 * k) * 256 := by
      rw [← Nat.mul_succ]
      exact Nat.mul_le_mul_left _ h2
    omega
theorem by8_bit {f : Nat → Nat} (hf : ∀ i, f i < 256) : ∀ k j, (by8 f k).testBit j = (decide (j < 8 * k) && (f (j / 8)).testBit (j % 8))
  | 0, j => by simp [by8]
  | k + 1, j => by
    show (2 ^ (8 * k) * f k + by8 f k).testBit j = _
    rw [Nat.testBit_two_pow_mul_add _ (by8_lt hf k)]
    by_cases h : j < 8 * k
    · rw [if_pos h, by8_bit hf k j]
      simp [h, show j < 8 * (k + 1) by omega]
    · rw [if_neg h]
      by_cases h2 : j < 8 * (k + 1)
      · rw [show j / 8 = k by omega, show j % 8 = j - 8 * k by omega]
        simp [h2]
      · have h3 : f k < 2 ^ (j - 8 * k) := Nat.lt_of_lt_of_le (hf k) (show 2 ^ 8 ≤ 2 ^ (j - 8 * k) from Nat.pow_le_pow_right (by decide) (by omega))
        rw [Nat.testBit_lt_two_pow h3]
        simp [h2]
def byt (n i : Nat) : Nat := n / 2 ^ (8 * i) % 256
theorem byt_lt (n i : Nat) : byt n i < 256 := Nat.mod_lt _ (by decide)
theorem byt_bit (n i j : Nat) : (byt n i).testBit j = (decide (j < 8) && n.testBit (8 * i + j)) := by
  unfold byt
  rw [show 256 = 2 ^ 8 from rfl, Nat.testBit_mod_two_pow, Nat.testBit_div_two_pow, Nat.add_comm]
theorem and_bytes {n : Nat} (h m : Nat) (hm : m < 2 ^ (8 - h)) (hh : h < 8) : (n / 2 ^ h) &&& by8 (fun _ => m) 8 = by8 (fun i => byt n i / 2 ^ h &&& m) 8 := by
  have hm8 : m < 256 := Nat.lt_of_lt_of_le hm (show 2 ^ (8 - h) ≤ 2 ^ 8 from Nat.pow_le_pow_right (by decide) (by omega))
  apply Nat.eq_of_testBit_eq
  intro j
  rw [Nat.testBit_and, by8_bit (fun _ => hm8), by8_bit (fun i => Nat.lt_of_le_of_lt Nat.and_le_right hm8), Nat.testBit_and, Nat.testBit_div_two_pow, Nat.testBit_div_two_pow, byt_bit]
  by_cases hb : m.testBit (j % 8) = true
  · have : j % 8 + h < 8 := by
      by_cases q : j % 8 < 8 - h
      · omega
      · exfalso
        rw [Nat.testBit_lt_two_pow (Nat.lt_of_lt_of_le hm (Nat.pow_le_pow_right (by decide) (by omega)))] at hb
        cases hb
    rw [hb, show 8 * (j / 8) + (j % 8 + h) = j + h by omega]
    cases n.testBit (j + h) <;> simp [this]
  · rw [Bool.eq_false_iff.mpr hb]
    simp
theorem byt_by8 {f : Nat → Nat} (hf : ∀ i, f i < 256) {i : Nat} (hi : i < 8) : byt (by8 f 8) i = f i := by
  apply Nat.eq_of_testBit_eq
  intro j
  rw [byt_bit, by8_bit hf]
  by_cases h : j < 8
  · rw [show (8 * i + j) / 8 = i by omega, show (8 * i + j) % 8 = j by omega]
    simp [h, show 8 * i + j < 64 by omega]
  · rw [Nat.testBit_lt_two_pow (Nat.lt_of_lt_of_le (hf i) (show 2 ^ 8 ≤ 2 ^ j from Nat.pow_le_pow_right (by decide) (by omega)))]
    simp [h]
theorem by8_byt {n : Nat} (hn : n < 2 ^ 64) : by8 (byt n) 8 = n := by
  apply Nat.eq_of_testBit_eq
  intro j
  rw [by8_bit (byt_lt n), byt_bit]
  by_cases h : j < 64
  · rw [show 8 * (j / 8) + j % 8 = j by omega]
    simp [h, Nat.mod_lt]
  · have q : n.testBit j = false := Nat.testBit_lt_two_pow (Nat.lt_of_lt_of_le hn (Nat.pow_le_pow_right (by decide) (by omega)))
    rw [q]
    simp [h]
theorem by8_cong {f g : Nat → Nat} (h : ∀ i, i < 8 → f i = g i) : by8 f 8 = by8 g 8 := by
  simp only [by8, h 0 (by decide), h 1 (by decide), h 2 (by decide), h 3 (by decide), h 4 (by decide), h 5 (by decide), h 6 (by decide), h 7 (by decide)]
def zbc8 (b : Nat) : Nat := fb_ct (fun j => b.testBit j) 8
theorem zbc8_eq : ∀ b, b < 256 → (b / 2 ^ 1 &&& 85 ≤ b) ∧ ((b - (b / 2 ^ 1 &&& 85)) / 2 ^ 0 &&& 51) + ((b - (b / 2 ^ 1 &&& 85)) / 2 ^ 2 &&& 51) ≤ 68 ∧ (((b - (b / 2 ^ 1 &&& 85)) / 2 ^ 0 &&& 51) + ((b - (b / 2 ^ 1 &&& 85)) / 2 ^ 2 &&& 51)) % 16 ≤ 4 ∧ (((b - (b / 2 ^ 1 &&& 85)) / 2 ^ 0 &&& 51) + ((b - (b / 2 ^ 1 &&& 85)) / 2 ^ 2 &&& 51)) / 16 ≤ 4 ∧ ((((b - (b / 2 ^ 1 &&& 85)) / 2 ^ 0 &&& 51) + ((b - (b / 2 ^ 1 &&& 85)) / 2 ^ 2 &&& 51)) % 16 + (((b - (b / 2 ^ 1 &&& 85)) / 2 ^ 0 &&& 51) + ((b - (b / 2 ^ 1 &&& 85)) / 2 ^ 2 &&& 51)) / 16) = zbc8 b ∧ zbc8 b ≤ 8 := by decide +kernel
theorem by8_8 (f : Nat → Nat) : by8 f 8 = f 0 + 256 * f 1 + 65536 * f 2 + 16777216 * f 3 + 4294967296 * f 4 + 1099511627776 * f 5 + 281474976710656 * f 6 + 72057594037927936 * f 7 := by
  simp only [by8]
  omega
theorem pc_sub {a b : Nat → Nat} (h : ∀ i, b i ≤ a i) : by8 a 8 - by8 b 8 = by8 (fun i => a i - b i) 8 := by
  have := h 0; have := h 1; have := h 2; have := h 3; have := h 4; have := h 5; have := h 6; have := h 7
  rw [by8_8, by8_8, by8_8]
  omega
theorem pc_add {a b : Nat → Nat} : by8 a 8 + by8 b 8 = by8 (fun i => a i + b i) 8 := by
  rw [by8_8, by8_8, by8_8]
  omega
theorem pc_end {a b c d e f g h : Nat} (f0 : a ≤ 8) (f1 : b ≤ 8) (f2 : c ≤ 8) (f3 : d ≤ 8) (f4 : e ≤ 8) (f5 : f ≤ 8) (f6 : g ≤ 8) (f7 : h ≤ 8) {x : Nat} (hx : a + 256 * b + 65536 * c + 16777216 * d + 4294967296 * e + 1099511627776 * f + 281474976710656 * g + 72057594037927936 * h = x) :
    ((x + x / 2 ^ 8) + (x + x / 2 ^ 8) / 2 ^ 16 + ((x + x / 2 ^ 8) + (x + x / 2 ^ 8) / 2 ^ 16) / 2 ^ 32) % 128 = a + b + c + d + e + f + g + h := by
  have q1 : x / 2 ^ 8 = b + 256 * c + 65536 * d + 16777216 * e + 4294967296 * f + 1099511627776 * g + 281474976710656 * h := by omega
  generalize hy : x + x / 2 ^ 8 = y
  have hy2 : y = (a + b) + 256 * (b + c) + 65536 * (c + d) + 16777216 * (d + e) + 4294967296 * (e + f) + 1099511627776 * (f + g) + 281474976710656 * (g + h) + 72057594037927936 * h := by omega
  clear hy q1 hx
  have q2 : y / 2 ^ 16 = (c + d) + 256 * (d + e) + 65536 * (e + f) + 16777216 * (f + g) + 4294967296 * (g + h) + 1099511627776 * h := by omega
  generalize hw : y + y / 2 ^ 16 = w
  have hw2 : w = (a + b + c + d) + 256 * (b + c + d + e) + 65536 * (c + d + e + f) + 16777216 * (d + e + f + g) + 4294967296 * (e + f + g + h) + 1099511627776 * (f + g + h) + 281474976710656 * (g + h) + 72057594037927936 * h := by omega
  clear hw q2 hy2
  have q3 : w / 2 ^ 32 = (e + f + g + h) + 256 * (f + g + h) + 65536 * (g + h) + 16777216 * h := by omega
  rw [q3]
  omega
/-- the six steps, over bytes -/
theorem pc_all {n : Nat} (hn : n < 2 ^ 64) : ∃ x1 x2 x3 : Nat, x1 = n - (n / 2 ^ 1 &&& by8 (fun _ => 85) 8) ∧ n / 2 ^ 1 &&& by8 (fun _ => 85) 8 ≤ n ∧ x2 = (x1 &&& by8 (fun _ => 51) 8) + (x1 / 2 ^ 2 &&& by8 (fun _ => 51) 8) ∧ x3 = (x2 + x2 / 2 ^ 4) &&& by8 (fun _ => 15) 8 ∧ x1 < 2 ^ 64 ∧ x2 < 2 ^ 63 ∧ x2 + x2 / 2 ^ 4 < 2 ^ 64 ∧
    x3 < 2 ^ 60 ∧ ((x3 + x3 / 2 ^ 8) + (x3 + x3 / 2 ^ 8) / 2 ^ 16 + ((x3 + x3 / 2 ^ 8) + (x3 + x3 / 2 ^ 8) / 2 ^ 16) / 2 ^ 32) % 128 = zbc8 (byt n 0) + zbc8 (byt n 1) + zbc8 (byt n 2) + zbc8 (byt n 3) + zbc8 (byt n 4) + zbc8 (byt n 5) + zbc8 (byt n 6) + zbc8 (byt n 7) := by
  have hc : ∀ i, byt n i / 2 ^ 1 &&& 85 ≤ byt n i := fun i => (zbc8_eq _ (byt_lt n i)).1
  have e0 : n / 2 ^ 1 &&& by8 (fun _ => 85) 8 = by8 (fun i => byt n i / 2 ^ 1 &&& 85) 8 := and_bytes 1 85 (by decide) (by decide)
  have e1 : n - (n / 2 ^ 1 &&& by8 (fun _ => 85) 8) = by8 (fun i => byt n i - (byt n i / 2 ^ 1 &&& 85)) 8 := by
    rw [e0, ← pc_sub hc, by8_byt hn]
  have le0 : n / 2 ^ 1 &&& by8 (fun _ => 85) 8 ≤ n := Nat.le_trans Nat.and_le_left (Nat.div_le_self _ _)
  generalize hC : (fun i => byt n i - (byt n i / 2 ^ 1 &&& 85)) = C at e1
  have hCl : ∀ i, C i < 256 := fun i => by rw [← hC]; have := byt_lt n i; show byt n i - _ < 256; omega
  have l1 : by8 C 8 < 2 ^ 64 := by8_lt hCl 8
  have e2 : (by8 C 8 &&& by8 (fun _ => 51) 8) + (by8 C 8 / 2 ^ 2 &&& by8 (fun _ => 51) 8) = by8 (fun i => (C i / 2 ^ 0 &&& 51) + (C i / 2 ^ 2 &&& 51)) 8 := by
    have a1 := and_bytes (n := by8 C 8) 0 51 (by decide) (by decide)
    have a2 := and_bytes (n := by8 C 8) 2 51 (by decide) (by decide)
    rw [Nat.pow_zero, Nat.div_one] at a1
    rw [a1, a2, pc_add]
    refine by8_cong (fun i hi => ?_)
    rw [byt_by8 hCl hi]
  generalize hE : (fun i => (C i / 2 ^ 0 &&& 51) + (C i / 2 ^ 2 &&& 51)) = E at e2
  have hz : ∀ i, E i ≤ 68 ∧ E i % 16 ≤ 4 ∧ E i / 16 ≤ 4 ∧ E i % 16 + E i / 16 = zbc8 (byt n i) ∧ zbc8 (byt n i) ≤ 8 := fun i => by
    rw [← hE, ← hC]
    exact (zbc8_eq _ (byt_lt n i)).2
  have z0 := hz 0; have z1 := hz 1; have z2 := hz 2; have z3 := hz 3; have z4 := hz 4; have z5 := hz 5; have z6 := hz 6; have z7 := hz 7
  have e3 : by8 E 8 + by8 E 8 / 2 ^ 4 = by8 (fun i => E i + E i / 16 + 16 * (if i < 7 then E (i + 1) % 16 else 0)) 8 := by
    rw [by8_8, by8_8]
    simp only [show (0 : Nat) < 7 by decide, show (1 : Nat) < 7 by decide, show (2 : Nat) < 7 by decide, show (3 : Nat) < 7 by decide, show (4 : Nat) < 7 by decide, show (5 : Nat) < 7 by decide, show (6 : Nat) < 7 by decide, show ¬ (7 : Nat) < 7 by decide, if_true, if_false, Nat.zero_add, Nat.reduceAdd]
    omega
  generalize hY : (fun i => E i + E i / 16 + 16 * (if i < 7 then E (i + 1) % 16 else 0)) = Y at e3
  have hYl : ∀ i, Y i < 256 := fun i => by
    rw [← hY]
    have a := hz i
    have b := hz (i + 1)
    show E i + E i / 16 + 16 * (if i < 7 then E (i + 1) % 16 else 0) < 256
    split <;> omega
  have hYz : ∀ i, Y i % 16 = zbc8 (byt n i) := fun i => by
    rw [← hY]
    have a := hz i
    show (E i + E i / 16 + 16 * (if i < 7 then E (i + 1) % 16 else 0)) % 16 = _
    omega
  have e4 : by8 Y 8 &&& by8 (fun _ => 15) 8 = by8 (fun i => zbc8 (byt n i)) 8 := by
    have a1 := and_bytes (n := by8 Y 8) 0 15 (by decide) (by decide)
    rw [Nat.pow_zero, Nat.div_one] at a1
    have m : ∀ k, k &&& 15 = k % 16 := fun k => Nat.and_two_pow_sub_one_eq_mod k 4
    rw [a1]
    refine by8_cong (fun i hi => ?_)
    rw [byt_by8 hYl hi, m, Nat.div_one]
    exact hYz i
  have l2 : by8 E 8 < 2 ^ 63 := by rw [by8_8]; omega
  have l3 : by8 (fun i => zbc8 (byt n i)) 8 < 2 ^ 60 := by rw [by8_8]; omega
  refine ⟨by8 C 8, by8 E 8, by8 (fun i => zbc8 (byt n i)) 8, e1.symm, le0, e2.symm, (e3 ▸ e4.symm), l1, l2, by omega, l3, ?_⟩
  rw [by8_8]
  have f0 := z0.2.2.2.2; have f1 := z1.2.2.2.2; have f2 := z2.2.2.2.2; have f3 := z3.2.2.2.2; have f4 := z4.2.2.2.2; have f5 := z5.2.2.2.2; have f6 := z6.2.2.2.2; have f7 := z7.2.2.2.2
  clear z0 z1 z2 z3 z4 z5 z6 z7 hz hYz hYl e4 e3 e2 e1 l3 l2 l1
  exact pc_end f0 f1 f2 f3 f4 f5 f6 f7 rfl
theorem zbc_sum {n : Nat} : fb_ct (fun j => n.testBit j) 64 = zbc8 (byt n 0) + zbc8 (byt n 1) + zbc8 (byt n 2) + zbc8 (byt n 3) + zbc8 (byt n 4) + zbc8 (byt n 5) + zbc8 (byt n 6) + zbc8 (byt n 7) := by
  have b : ∀ i, zbc8 (byt n i) = fb_ct (fun k => n.testBit (8 * i + k)) 8 := fun i => fb_ct_cong (fun k hk => by rw [byt_bit]; simp [hk])
  rw [b, b, b, b, b, b, b, b]
  have s := fun m k => fb_ct_split (fun j => n.testBit j) m k
  rw [show (64 : Nat) = 56 + 8 from rfl, s, show (56 : Nat) = 48 + 8 from rfl, s, show (48 : Nat) = 40 + 8 from rfl, s, show (40 : Nat) = 32 + 8 from rfl, s, show (32 : Nat) = 24 + 8 from rfl, s, show (24 : Nat) = 16 + 8 from rfl, s, show (16 : Nat) = 8 + 8 from rfl, s]
  simp only [Nat.mul_zero, Nat.zero_add]
section BC
variable {G : zG} {sh : Nat → Option zSh} {S : zSt}
theorem wb_shr' {n k : Nat} (hn : n < 2 ^ 64) (hk : k < 64) {v : Int32} (hv : nI k = v) : ((lN n).toUInt64 >>> (v.toInt64.toUInt64 &&& Int64.toUInt64 63)).toInt64 = lN (n / 2 ^ k) := by
  rw [← hv]; exact wb_shr hn hk
theorem C_bitCount {x : Int64} : zD G m_JLong_bitCount 1 sh [.long x] S (some (.int (nI (fb_ct (zw x) 64)))) S := by
  obtain ⟨n, hn, rfl⟩ := wb_of x
  have hcount : fb_ct (zw (lN n)) 64 = zbc8 (byt n 0) + zbc8 (byt n 1) + zbc8 (byt n 2) + zbc8 (byt n 3) + zbc8 (byt n 4) + zbc8 (byt n 5) + zbc8 (byt n 6) + zbc8 (byt n 7) := by
    rw [← zbc_sum]
    exact fb_ct_cong (fun k hk => by unfold zw; rw [wb_tb, BitVec.getLsbD_ofNat]; simp [hk])
  obtain ⟨x1, x2, x3, e1, le0, e2, e3, l1, l2, l2', l3, e4⟩ := pc_all hn
  have m5 : (6148914691236517205 : Int64) = lN (by8 (fun _ => 85) 8) := by decide +kernel
  have m3 : (3689348814741910323 : Int64) = lN (by8 (fun _ => 51) 8) := by decide +kernel
  have mF : (1085102592571150095 : Int64) = lN (by8 (fun _ => 15) 8) := by decide +kernel
  have b5 : by8 (fun _ => 85) 8 < 2 ^ 64 := by decide +kernel
  have b3 : by8 (fun _ => 51) 8 < 2 ^ 64 := by decide +kernel
  have bF : by8 (fun _ => 15) 8 < 2 ^ 64 := by decide +kernel
  have d3 : x3 / 2 ^ 8 ≤ x3 := Nat.div_le_self _ _
  have d4 : (x3 + x3 / 2 ^ 8) / 2 ^ 16 ≤ x3 + x3 / 2 ^ 8 := Nat.div_le_self _ _
  refine s_methD 0 ⟨p_JLong, rfl, Nat.le_of_ble_eq_true rfl⟩ rfl (fun sz => ?_)
  refine z_lload_n dJ13_bitCount_95d88_0 rfl ?_
  refine z_lload_n dJ13_bitCount_95d88_1 rfl ?_
  refine z_iconst 1 dJ13_bitCount_95d88_2 rfl ?_
  refine z_lushr dJ13_bitCount_95d88_3 ?_
  refine z_ldc2 (6148914691236517205) v_JLong_314 dJ13_bitCount_95d88_4 ?_
  refine z_land dJ13_bitCount_95d88_7 ?_
  refine z_lsub dJ13_bitCount_95d88_8 ?_
  rw [m5, wb_shr' (k := 1) (v := 1) hn (by decide) rfl, wb_and (Nat.lt_of_le_of_lt (Nat.div_le_self _ _) hn) b5, lN_sub le0, ← e1]
  refine z_lstore_n (lv' := [_, _]) dJ13_bitCount_95d88_9 (by decide) rfl ?_
  refine z_lload_n dJ13_bitCount_95d88_10 rfl ?_
  refine z_ldc2 (3689348814741910323) v_JLong_316 dJ13_bitCount_95d88_11 ?_
  refine z_land dJ13_bitCount_95d88_14 ?_
  refine z_lload_n dJ13_bitCount_95d88_15 rfl ?_
  refine z_iconst 2 dJ13_bitCount_95d88_16 rfl ?_
  refine z_lushr dJ13_bitCount_95d88_17 ?_
  refine z_ldc2 (3689348814741910323) v_JLong_316 dJ13_bitCount_95d88_18 ?_
  refine z_land dJ13_bitCount_95d88_21 ?_
  refine z_ladd dJ13_bitCount_95d88_22 ?_
  rw [m3, wb_and l1 b3, wb_shr' (k := 2) (v := 2) l1 (by decide) rfl, wb_and (Nat.lt_of_le_of_lt (Nat.div_le_self _ _) l1) b3, lN_add, ← e2]
  refine z_lstore_n (lv' := [_, _]) dJ13_bitCount_95d88_23 (by decide) rfl ?_
  refine z_lload_n dJ13_bitCount_95d88_24 rfl ?_
  refine z_lload_n dJ13_bitCount_95d88_25 rfl ?_
  refine z_iconst 4 dJ13_bitCount_95d88_26 rfl ?_
  refine z_lushr dJ13_bitCount_95d88_27 ?_
  refine z_ladd dJ13_bitCount_95d88_28 ?_
  refine z_ldc2 (1085102592571150095) v_JLong_318 dJ13_bitCount_95d88_29 ?_
  refine z_land dJ13_bitCount_95d88_32 ?_
  rw [mF, wb_shr' (k := 4) (v := 4) (by omega) (by decide) rfl, lN_add, wb_and l2' bF, ← e3]
  refine z_lstore_n (lv' := [_, _]) dJ13_bitCount_95d88_33 (by decide) rfl ?_
  refine z_lload_n dJ13_bitCount_95d88_34 rfl ?_
  refine z_lload_n dJ13_bitCount_95d88_35 rfl ?_
  refine z_bipush 8 dJ13_bitCount_95d88_36 (by decide) ?_
  refine z_lushr dJ13_bitCount_95d88_38 ?_
  refine z_ladd dJ13_bitCount_95d88_39 ?_
  rw [wb_shr' (k := 8) (v := 8) (by omega) (by decide) rfl, lN_add]
  refine z_lstore_n (lv' := [_, _]) dJ13_bitCount_95d88_40 (by decide) rfl ?_
  refine z_lload_n dJ13_bitCount_95d88_41 rfl ?_
  refine z_lload_n dJ13_bitCount_95d88_42 rfl ?_
  refine z_bipush 16 dJ13_bitCount_95d88_43 (by decide) ?_
  refine z_lushr dJ13_bitCount_95d88_45 ?_
  refine z_ladd dJ13_bitCount_95d88_46 ?_
  rw [wb_shr' (k := 16) (v := 16) (by omega) (by decide) rfl, lN_add]
  refine z_lstore_n (lv' := [_, _]) dJ13_bitCount_95d88_47 (by decide) rfl ?_
  refine z_lload_n dJ13_bitCount_95d88_48 rfl ?_
  refine z_lload_n dJ13_bitCount_95d88_49 rfl ?_
  refine z_bipush 32 dJ13_bitCount_95d88_50 (by decide) ?_
  refine z_lushr dJ13_bitCount_95d88_52 ?_
  refine z_ladd dJ13_bitCount_95d88_53 ?_
  rw [wb_shr' (k := 32) (v := 32) (by omega) (by decide) rfl, lN_add]
  refine z_lstore_n (lv' := [_, _]) dJ13_bitCount_95d88_54 (by decide) rfl ?_
  refine z_lload_n dJ13_bitCount_95d88_55 rfl ?_
  refine z_l2i dJ13_bitCount_95d88_56 ?_
  refine z_bipush 127 dJ13_bitCount_95d88_57 (by decide) ?_
  refine z_iand dJ13_bitCount_95d88_59 ?_
  refine z_ireturn dJ13_bitCount_95d88_60 rfl rfl ⟨Nat.le_refl _, Nat.le_refl _⟩ ?_
  rw [lN_i, show (127 : Int32) = nI 127 from rfl, nx_and, show (127 : Nat) = 2 ^ 7 - 1 from rfl, Nat.and_two_pow_sub_one_eq_mod, show 2 ^ 7 = 128 from rfl, e4, hcount]
  exact ⟨rfl, rfl, rfl⟩
end BC
end
