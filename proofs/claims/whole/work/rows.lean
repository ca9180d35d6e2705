section
-- ===== PART A: goes FIRST, ahead of the names: the tables' words, and 'selects' of the private methods out of them =====
/-- a private method of a class that the tables say can be made, by its rows of tables_1 -/
def lw_okq (q : MethodName × Nat) : Prop := (q.1.cls ≠ "java/lang/invoke/MethodHandle" ∧ q.1.cls ≠ "java/lang/invoke/VarHandle") ∧ Cond.instantiable q.1.cls q.2 ∈ tables_1 ∧ Cond.privateMethod q.1 ∈ tables_1 ∧ Cond.instanceMethod q.1 ∈ tables_1
theorem lw_p0 : lw_okq (⟨"RunColumns$Rows", "putLast", "(II)V"⟩, 2) := ⟨⟨by decide +kernel, by decide +kernel⟩, List.mem_of_getElem? (i := 35) (by decide +kernel), List.mem_of_getElem? (i := 284) (by decide +kernel), List.mem_of_getElem? (i := 285) (by decide +kernel)⟩
theorem lw_p1 : lw_okq (⟨"RunColumns$Reader", "readEither", "(LRunColumns$Query;I)V"⟩, 4) := ⟨⟨by decide +kernel, by decide +kernel⟩, List.mem_of_getElem? (i := 116) (by decide +kernel), List.mem_of_getElem? (i := 389) (by decide +kernel), List.mem_of_getElem? (i := 390) (by decide +kernel)⟩
theorem lw_p2 : lw_okq (⟨"RunColumns$Reader", "readBoth", "(LRunColumns$Query;I)V"⟩, 4) := ⟨⟨by decide +kernel, by decide +kernel⟩, List.mem_of_getElem? (i := 116) (by decide +kernel), List.mem_of_getElem? (i := 393) (by decide +kernel), List.mem_of_getElem? (i := 394) (by decide +kernel)⟩
theorem lw_p3 : lw_okq (⟨"RunColumns$Reader", "readFactor", "(LRunColumns$Query;I)V"⟩, 4) := ⟨⟨by decide +kernel, by decide +kernel⟩, List.mem_of_getElem? (i := 116) (by decide +kernel), List.mem_of_getElem? (i := 397) (by decide +kernel), List.mem_of_getElem? (i := 398) (by decide +kernel)⟩
theorem lw_p4 : lw_okq (⟨"RunColumns$Reader", "isWordAt", "(ILjava/lang/String;)Z"⟩, 4) := ⟨⟨by decide +kernel, by decide +kernel⟩, List.mem_of_getElem? (i := 116) (by decide +kernel), List.mem_of_getElem? (i := 402) (by decide +kernel), List.mem_of_getElem? (i := 403) (by decide +kernel)⟩
theorem lw_p5 : lw_okq (⟨"RunColumns$Reader", "signAt", "(I)I"⟩, 4) := ⟨⟨by decide +kernel, by decide +kernel⟩, List.mem_of_getElem? (i := 116) (by decide +kernel), List.mem_of_getElem? (i := 416) (by decide +kernel), List.mem_of_getElem? (i := 417) (by decide +kernel)⟩
theorem lw_p6 : lw_okq (⟨"RunColumns$Reader", "blame", "(I)V"⟩, 4) := ⟨⟨by decide +kernel, by decide +kernel⟩, List.mem_of_getElem? (i := 116) (by decide +kernel), List.mem_of_getElem? (i := 461) (by decide +kernel), List.mem_of_getElem? (i := 462) (by decide +kernel)⟩
theorem lw_p7 : lw_okq (⟨"RunColumns$Reader", "passWord", "(Ljava/lang/String;)V"⟩, 4) := ⟨⟨by decide +kernel, by decide +kernel⟩, List.mem_of_getElem? (i := 116) (by decide +kernel), List.mem_of_getElem? (i := 465) (by decide +kernel), List.mem_of_getElem? (i := 466) (by decide +kernel)⟩
theorem lw_p8 : lw_okq (⟨"RunColumns$Reader", "pass", "(C)V"⟩, 4) := ⟨⟨by decide +kernel, by decide +kernel⟩, List.mem_of_getElem? (i := 116) (by decide +kernel), List.mem_of_getElem? (i := 469) (by decide +kernel), List.mem_of_getElem? (i := 470) (by decide +kernel)⟩
theorem lw_p9 : lw_okq (⟨"RunColumns$Reader", "passClosing", "()V"⟩, 4) := ⟨⟨by decide +kernel, by decide +kernel⟩, List.mem_of_getElem? (i := 116) (by decide +kernel), List.mem_of_getElem? (i := 481) (by decide +kernel), List.mem_of_getElem? (i := 482) (by decide +kernel)⟩
theorem lw_p10 : lw_okq (⟨"RunColumns$Reader", "blameWhatFollows", "()V"⟩, 4) := ⟨⟨by decide +kernel, by decide +kernel⟩, List.mem_of_getElem? (i := 116) (by decide +kernel), List.mem_of_getElem? (i := 485) (by decide +kernel), List.mem_of_getElem? (i := 486) (by decide +kernel)⟩
theorem lw_p11 : lw_okq (⟨"RunColumns$Reader", "readQuestion", "(LRunColumns$Query;)V"⟩, 4) := ⟨⟨by decide +kernel, by decide +kernel⟩, List.mem_of_getElem? (i := 116) (by decide +kernel), List.mem_of_getElem? (i := 491) (by decide +kernel), List.mem_of_getElem? (i := 492) (by decide +kernel)⟩
theorem lw_p12 : lw_okq (⟨"RunColumns$Reader", "passColumn", "()I"⟩, 4) := ⟨⟨by decide +kernel, by decide +kernel⟩, List.mem_of_getElem? (i := 116) (by decide +kernel), List.mem_of_getElem? (i := 495) (by decide +kernel), List.mem_of_getElem? (i := 496) (by decide +kernel)⟩
theorem lw_p13 : lw_okq (⟨"RunColumns$Reader", "passSort", "()I"⟩, 4) := ⟨⟨by decide +kernel, by decide +kernel⟩, List.mem_of_getElem? (i := 116) (by decide +kernel), List.mem_of_getElem? (i := 499) (by decide +kernel), List.mem_of_getElem? (i := 500) (by decide +kernel)⟩
theorem lw_p14 : lw_okq (⟨"RunColumns$Reader", "passValue", "()I"⟩, 4) := ⟨⟨by decide +kernel, by decide +kernel⟩, List.mem_of_getElem? (i := 116) (by decide +kernel), List.mem_of_getElem? (i := 506) (by decide +kernel), List.mem_of_getElem? (i := 507) (by decide +kernel)⟩
theorem lw_p15 : lw_okq (⟨"RunColumns$Reader", "isJoinedBy", "(Ljava/lang/String;)Z"⟩, 4) := ⟨⟨by decide +kernel, by decide +kernel⟩, List.mem_of_getElem? (i := 116) (by decide +kernel), List.mem_of_getElem? (i := 514) (by decide +kernel), List.mem_of_getElem? (i := 515) (by decide +kernel)⟩
def lw_privs_1 : List (MethodName × Nat) := [(⟨"RunColumns$Rows", "putLast", "(II)V"⟩, 2), (⟨"RunColumns$Reader", "readEither", "(LRunColumns$Query;I)V"⟩, 4), (⟨"RunColumns$Reader", "readBoth", "(LRunColumns$Query;I)V"⟩, 4), (⟨"RunColumns$Reader", "readFactor", "(LRunColumns$Query;I)V"⟩, 4), (⟨"RunColumns$Reader", "isWordAt", "(ILjava/lang/String;)Z"⟩, 4), (⟨"RunColumns$Reader", "signAt", "(I)I"⟩, 4), (⟨"RunColumns$Reader", "blame", "(I)V"⟩, 4), (⟨"RunColumns$Reader", "passWord", "(Ljava/lang/String;)V"⟩, 4), (⟨"RunColumns$Reader", "pass", "(C)V"⟩, 4), (⟨"RunColumns$Reader", "passClosing", "()V"⟩, 4), (⟨"RunColumns$Reader", "blameWhatFollows", "()V"⟩, 4), (⟨"RunColumns$Reader", "readQuestion", "(LRunColumns$Query;)V"⟩, 4), (⟨"RunColumns$Reader", "passColumn", "()I"⟩, 4), (⟨"RunColumns$Reader", "passSort", "()I"⟩, 4), (⟨"RunColumns$Reader", "passValue", "()I"⟩, 4), (⟨"RunColumns$Reader", "isJoinedBy", "(Ljava/lang/String;)Z"⟩, 4)]
theorem lw_r1 : ∀ q ∈ lw_privs_1, lw_okq q := List.forall_mem_cons.mpr ⟨lw_p0, List.forall_mem_cons.mpr ⟨lw_p1, List.forall_mem_cons.mpr ⟨lw_p2, List.forall_mem_cons.mpr ⟨lw_p3, List.forall_mem_cons.mpr ⟨lw_p4, List.forall_mem_cons.mpr ⟨lw_p5, List.forall_mem_cons.mpr ⟨lw_p6, List.forall_mem_cons.mpr ⟨lw_p7, List.forall_mem_cons.mpr ⟨lw_p8, List.forall_mem_cons.mpr ⟨lw_p9, List.forall_mem_cons.mpr ⟨lw_p10, List.forall_mem_cons.mpr ⟨lw_p11, List.forall_mem_cons.mpr ⟨lw_p12, List.forall_mem_cons.mpr ⟨lw_p13, List.forall_mem_cons.mpr ⟨lw_p14, List.forall_mem_cons.mpr ⟨lw_p15, fun _ h => absurd h List.not_mem_nil⟩⟩⟩⟩⟩⟩⟩⟩⟩⟩⟩⟩⟩⟩⟩⟩
theorem lw_p16 : lw_okq (⟨"RunColumns$Reader", "passJoin", "(Ljava/lang/String;)V"⟩, 4) := ⟨⟨by decide +kernel, by decide +kernel⟩, List.mem_of_getElem? (i := 116) (by decide +kernel), List.mem_of_getElem? (i := 518) (by decide +kernel), List.mem_of_getElem? (i := 519) (by decide +kernel)⟩
theorem lw_p17 : lw_okq (⟨"RunColumns", "isQuery", "(I)Z"⟩, 12) := ⟨⟨by decide +kernel, by decide +kernel⟩, List.mem_of_getElem? (i := 21) (by decide +kernel), List.mem_of_getElem? (i := 527) (by decide +kernel), List.mem_of_getElem? (i := 528) (by decide +kernel)⟩
theorem lw_p18 : lw_okq (⟨"RunColumns$Work", "turn", "(LRunColumns$Rows;)V"⟩, 4) := ⟨⟨by decide +kernel, by decide +kernel⟩, List.mem_of_getElem? (i := 141) (by decide +kernel), List.mem_of_getElem? (i := 535) (by decide +kernel), List.mem_of_getElem? (i := 536) (by decide +kernel)⟩
theorem lw_p19 : lw_okq (⟨"RunColumns$Work", "join", "(ILRunColumns$Rows;)V"⟩, 4) := ⟨⟨by decide +kernel, by decide +kernel⟩, List.mem_of_getElem? (i := 141) (by decide +kernel), List.mem_of_getElem? (i := 544) (by decide +kernel), List.mem_of_getElem? (i := 545) (by decide +kernel)⟩
theorem lw_p20 : lw_okq (⟨"RunColumns$Work", "ask", "(LRunColumns$Query;ILRunColumns$Rows;)V"⟩, 4) := ⟨⟨by decide +kernel, by decide +kernel⟩, List.mem_of_getElem? (i := 141) (by decide +kernel), List.mem_of_getElem? (i := 560) (by decide +kernel), List.mem_of_getElem? (i := 561) (by decide +kernel)⟩
theorem lw_p21 : lw_okq (⟨"RunColumns", "resultOf", "(I)LRunColumns$Bits;"⟩, 12) := ⟨⟨by decide +kernel, by decide +kernel⟩, List.mem_of_getElem? (i := 21) (by decide +kernel), List.mem_of_getElem? (i := 607) (by decide +kernel), List.mem_of_getElem? (i := 608) (by decide +kernel)⟩
theorem lw_p22 : lw_okq (⟨"RunColumns$State", "tryStep", "(IILRunColumns$Rows;)V"⟩, 6) := ⟨⟨by decide +kernel, by decide +kernel⟩, List.mem_of_getElem? (i := 29) (by decide +kernel), List.mem_of_getElem? (i := 713) (by decide +kernel), List.mem_of_getElem? (i := 714) (by decide +kernel)⟩
theorem lw_p23 : lw_okq (⟨"RunColumnsModel", "comes", "(IIII)I"⟩, 23) := ⟨⟨by decide +kernel, by decide +kernel⟩, List.mem_of_getElem? (i := 813) (by decide +kernel), List.mem_of_getElem? (i := 898) (by decide +kernel), List.mem_of_getElem? (i := 899) (by decide +kernel)⟩
theorem lw_p24 : lw_okq (⟨"RunColumnsModel", "isRow", "(I)Z"⟩, 23) := ⟨⟨by decide +kernel, by decide +kernel⟩, List.mem_of_getElem? (i := 813) (by decide +kernel), List.mem_of_getElem? (i := 906) (by decide +kernel), List.mem_of_getElem? (i := 907) (by decide +kernel)⟩
theorem lw_p25 : lw_okq (⟨"RunColumnsModel", "runsOf", "(II)I"⟩, 23) := ⟨⟨by decide +kernel, by decide +kernel⟩, List.mem_of_getElem? (i := 813) (by decide +kernel), List.mem_of_getElem? (i := 922) (by decide +kernel), List.mem_of_getElem? (i := 923) (by decide +kernel)⟩
theorem lw_p26 : lw_okq (⟨"RunColumnsModel", "bit", "(III)Z"⟩, 23) := ⟨⟨by decide +kernel, by decide +kernel⟩, List.mem_of_getElem? (i := 813) (by decide +kernel), List.mem_of_getElem? (i := 926) (by decide +kernel), List.mem_of_getElem? (i := 927) (by decide +kernel)⟩
theorem lw_p27 : lw_okq (⟨"RunColumnsModel", "isOnes", "(III)Z"⟩, 23) := ⟨⟨by decide +kernel, by decide +kernel⟩, List.mem_of_getElem? (i := 813) (by decide +kernel), List.mem_of_getElem? (i := 934) (by decide +kernel), List.mem_of_getElem? (i := 935) (by decide +kernel)⟩
theorem lw_p28 : lw_okq (⟨"RunColumnsModel", "either", "(I)I"⟩, 23) := ⟨⟨by decide +kernel, by decide +kernel⟩, List.mem_of_getElem? (i := 813) (by decide +kernel), List.mem_of_getElem? (i := 946) (by decide +kernel), List.mem_of_getElem? (i := 947) (by decide +kernel)⟩
theorem lw_p29 : lw_okq (⟨"RunColumnsModel", "both", "(I)I"⟩, 23) := ⟨⟨by decide +kernel, by decide +kernel⟩, List.mem_of_getElem? (i := 813) (by decide +kernel), List.mem_of_getElem? (i := 950) (by decide +kernel), List.mem_of_getElem? (i := 951) (by decide +kernel)⟩
theorem lw_p30 : lw_okq (⟨"RunColumnsModel", "factor", "(I)I"⟩, 23) := ⟨⟨by decide +kernel, by decide +kernel⟩, List.mem_of_getElem? (i := 813) (by decide +kernel), List.mem_of_getElem? (i := 954) (by decide +kernel), List.mem_of_getElem? (i := 955) (by decide +kernel)⟩
theorem lw_p31 : lw_okq (⟨"RunColumnsModel", "signAt", "(I)I"⟩, 23) := ⟨⟨by decide +kernel, by decide +kernel⟩, List.mem_of_getElem? (i := 813) (by decide +kernel), List.mem_of_getElem? (i := 958) (by decide +kernel), List.mem_of_getElem? (i := 959) (by decide +kernel)⟩
def lw_privs_2 : List (MethodName × Nat) := [(⟨"RunColumns$Reader", "passJoin", "(Ljava/lang/String;)V"⟩, 4), (⟨"RunColumns", "isQuery", "(I)Z"⟩, 12), (⟨"RunColumns$Work", "turn", "(LRunColumns$Rows;)V"⟩, 4), (⟨"RunColumns$Work", "join", "(ILRunColumns$Rows;)V"⟩, 4), (⟨"RunColumns$Work", "ask", "(LRunColumns$Query;ILRunColumns$Rows;)V"⟩, 4), (⟨"RunColumns", "resultOf", "(I)LRunColumns$Bits;"⟩, 12), (⟨"RunColumns$State", "tryStep", "(IILRunColumns$Rows;)V"⟩, 6), (⟨"RunColumnsModel", "comes", "(IIII)I"⟩, 23), (⟨"RunColumnsModel", "isRow", "(I)Z"⟩, 23), (⟨"RunColumnsModel", "runsOf", "(II)I"⟩, 23), (⟨"RunColumnsModel", "bit", "(III)Z"⟩, 23), (⟨"RunColumnsModel", "isOnes", "(III)Z"⟩, 23), (⟨"RunColumnsModel", "either", "(I)I"⟩, 23), (⟨"RunColumnsModel", "both", "(I)I"⟩, 23), (⟨"RunColumnsModel", "factor", "(I)I"⟩, 23), (⟨"RunColumnsModel", "signAt", "(I)I"⟩, 23)]
theorem lw_r2 : ∀ q ∈ lw_privs_2, lw_okq q := List.forall_mem_cons.mpr ⟨lw_p16, List.forall_mem_cons.mpr ⟨lw_p17, List.forall_mem_cons.mpr ⟨lw_p18, List.forall_mem_cons.mpr ⟨lw_p19, List.forall_mem_cons.mpr ⟨lw_p20, List.forall_mem_cons.mpr ⟨lw_p21, List.forall_mem_cons.mpr ⟨lw_p22, List.forall_mem_cons.mpr ⟨lw_p23, List.forall_mem_cons.mpr ⟨lw_p24, List.forall_mem_cons.mpr ⟨lw_p25, List.forall_mem_cons.mpr ⟨lw_p26, List.forall_mem_cons.mpr ⟨lw_p27, List.forall_mem_cons.mpr ⟨lw_p28, List.forall_mem_cons.mpr ⟨lw_p29, List.forall_mem_cons.mpr ⟨lw_p30, List.forall_mem_cons.mpr ⟨lw_p31, fun _ h => absurd h List.not_mem_nil⟩⟩⟩⟩⟩⟩⟩⟩⟩⟩⟩⟩⟩⟩⟩⟩
theorem lw_p32 : lw_okq (⟨"RunColumnsModel", "wrong", "(I)V"⟩, 23) := ⟨⟨by decide +kernel, by decide +kernel⟩, List.mem_of_getElem? (i := 813) (by decide +kernel), List.mem_of_getElem? (i := 962) (by decide +kernel), List.mem_of_getElem? (i := 963) (by decide +kernel)⟩
theorem lw_p33 : lw_okq (⟨"RunColumnsModel", "must", "(I)V"⟩, 23) := ⟨⟨by decide +kernel, by decide +kernel⟩, List.mem_of_getElem? (i := 813) (by decide +kernel), List.mem_of_getElem? (i := 966) (by decide +kernel), List.mem_of_getElem? (i := 967) (by decide +kernel)⟩
theorem lw_p34 : lw_okq (⟨"RunColumnsModel", "word", "()I"⟩, 23) := ⟨⟨by decide +kernel, by decide +kernel⟩, List.mem_of_getElem? (i := 813) (by decide +kernel), List.mem_of_getElem? (i := 970) (by decide +kernel), List.mem_of_getElem? (i := 971) (by decide +kernel)⟩
theorem lw_p35 : lw_okq (⟨"RunColumnsModel", "wordEnd", "()I"⟩, 23) := ⟨⟨by decide +kernel, by decide +kernel⟩, List.mem_of_getElem? (i := 813) (by decide +kernel), List.mem_of_getElem? (i := 974) (by decide +kernel), List.mem_of_getElem? (i := 975) (by decide +kernel)⟩
theorem lw_p36 : lw_okq (⟨"RunColumnsModel", "node", "(IIIIII)I"⟩, 23) := ⟨⟨by decide +kernel, by decide +kernel⟩, List.mem_of_getElem? (i := 813) (by decide +kernel), List.mem_of_getElem? (i := 979) (by decide +kernel), List.mem_of_getElem? (i := 980) (by decide +kernel)⟩
theorem lw_p37 : lw_okq (⟨"RunColumnsModel", "columnHere", "(I)I"⟩, 23) := ⟨⟨by decide +kernel, by decide +kernel⟩, List.mem_of_getElem? (i := 813) (by decide +kernel), List.mem_of_getElem? (i := 983) (by decide +kernel), List.mem_of_getElem? (i := 984) (by decide +kernel)⟩
theorem lw_p38 : lw_okq (⟨"RunColumnsModel", "value", "()I"⟩, 23) := ⟨⟨by decide +kernel, by decide +kernel⟩, List.mem_of_getElem? (i := 813) (by decide +kernel), List.mem_of_getElem? (i := 988) (by decide +kernel), List.mem_of_getElem? (i := 989) (by decide +kernel)⟩
theorem lw_p39 : lw_okq (⟨"RunColumnsModel", "follows", "(I)Z"⟩, 23) := ⟨⟨by decide +kernel, by decide +kernel⟩, List.mem_of_getElem? (i := 813) (by decide +kernel), List.mem_of_getElem? (i := 992) (by decide +kernel), List.mem_of_getElem? (i := 993) (by decide +kernel)⟩
theorem lw_p40 : lw_okq (⟨"RunColumnsModel", "isQuery", "(I)Z"⟩, 23) := ⟨⟨by decide +kernel, by decide +kernel⟩, List.mem_of_getElem? (i := 813) (by decide +kernel), List.mem_of_getElem? (i := 1000) (by decide +kernel), List.mem_of_getElem? (i := 1001) (by decide +kernel)⟩
theorem lw_p41 : lw_okq (⟨"RunColumnsModel", "resultMany", "(I)I"⟩, 23) := ⟨⟨by decide +kernel, by decide +kernel⟩, List.mem_of_getElem? (i := 813) (by decide +kernel), List.mem_of_getElem? (i := 1004) (by decide +kernel), List.mem_of_getElem? (i := 1005) (by decide +kernel)⟩
theorem lw_p42 : lw_okq (⟨"RunColumnsModel", "isSo", "(II)Z"⟩, 23) := ⟨⟨by decide +kernel, by decide +kernel⟩, List.mem_of_getElem? (i := 813) (by decide +kernel), List.mem_of_getElem? (i := 1008) (by decide +kernel), List.mem_of_getElem? (i := 1009) (by decide +kernel)⟩
theorem lw_p43 : lw_okq (⟨"RunColumnsModel", "resultRuns", "(I)I"⟩, 23) := ⟨⟨by decide +kernel, by decide +kernel⟩, List.mem_of_getElem? (i := 813) (by decide +kernel), List.mem_of_getElem? (i := 1012) (by decide +kernel), List.mem_of_getElem? (i := 1013) (by decide +kernel)⟩
theorem lw_p44 : lw_okq (⟨"RunColumnsModel", "cost", "(I)I"⟩, 23) := ⟨⟨by decide +kernel, by decide +kernel⟩, List.mem_of_getElem? (i := 813) (by decide +kernel), List.mem_of_getElem? (i := 1016) (by decide +kernel), List.mem_of_getElem? (i := 1017) (by decide +kernel)⟩
theorem lw_p45 : lw_okq (⟨"RunColumnsModel", "rowAt", "(II)I"⟩, 23) := ⟨⟨by decide +kernel, by decide +kernel⟩, List.mem_of_getElem? (i := 813) (by decide +kernel), List.mem_of_getElem? (i := 1020) (by decide +kernel), List.mem_of_getElem? (i := 1021) (by decide +kernel)⟩
theorem lw_p46 : lw_okq (⟨"RunColumnsModel", "sortsIn", "(IZ)I"⟩, 23) := ⟨⟨by decide +kernel, by decide +kernel⟩, List.mem_of_getElem? (i := 813) (by decide +kernel), List.mem_of_getElem? (i := 1024) (by decide +kernel), List.mem_of_getElem? (i := 1025) (by decide +kernel)⟩
theorem lw_p47 : lw_okq (⟨"RunColumnsModel", "deepOf", "(I)I"⟩, 23) := ⟨⟨by decide +kernel, by decide +kernel⟩, List.mem_of_getElem? (i := 813) (by decide +kernel), List.mem_of_getElem? (i := 1028) (by decide +kernel), List.mem_of_getElem? (i := 1029) (by decide +kernel)⟩
def lw_privs_3 : List (MethodName × Nat) := [(⟨"RunColumnsModel", "wrong", "(I)V"⟩, 23), (⟨"RunColumnsModel", "must", "(I)V"⟩, 23), (⟨"RunColumnsModel", "word", "()I"⟩, 23), (⟨"RunColumnsModel", "wordEnd", "()I"⟩, 23), (⟨"RunColumnsModel", "node", "(IIIIII)I"⟩, 23), (⟨"RunColumnsModel", "columnHere", "(I)I"⟩, 23), (⟨"RunColumnsModel", "value", "()I"⟩, 23), (⟨"RunColumnsModel", "follows", "(I)Z"⟩, 23), (⟨"RunColumnsModel", "isQuery", "(I)Z"⟩, 23), (⟨"RunColumnsModel", "resultMany", "(I)I"⟩, 23), (⟨"RunColumnsModel", "isSo", "(II)Z"⟩, 23), (⟨"RunColumnsModel", "resultRuns", "(I)I"⟩, 23), (⟨"RunColumnsModel", "cost", "(I)I"⟩, 23), (⟨"RunColumnsModel", "rowAt", "(II)I"⟩, 23), (⟨"RunColumnsModel", "sortsIn", "(IZ)I"⟩, 23), (⟨"RunColumnsModel", "deepOf", "(I)I"⟩, 23)]
theorem lw_r3 : ∀ q ∈ lw_privs_3, lw_okq q := List.forall_mem_cons.mpr ⟨lw_p32, List.forall_mem_cons.mpr ⟨lw_p33, List.forall_mem_cons.mpr ⟨lw_p34, List.forall_mem_cons.mpr ⟨lw_p35, List.forall_mem_cons.mpr ⟨lw_p36, List.forall_mem_cons.mpr ⟨lw_p37, List.forall_mem_cons.mpr ⟨lw_p38, List.forall_mem_cons.mpr ⟨lw_p39, List.forall_mem_cons.mpr ⟨lw_p40, List.forall_mem_cons.mpr ⟨lw_p41, List.forall_mem_cons.mpr ⟨lw_p42, List.forall_mem_cons.mpr ⟨lw_p43, List.forall_mem_cons.mpr ⟨lw_p44, List.forall_mem_cons.mpr ⟨lw_p45, List.forall_mem_cons.mpr ⟨lw_p46, List.forall_mem_cons.mpr ⟨lw_p47, fun _ h => absurd h List.not_mem_nil⟩⟩⟩⟩⟩⟩⟩⟩⟩⟩⟩⟩⟩⟩⟩⟩
theorem lw_p48 : lw_okq (⟨"RunColumnsModel", "grouped", "(II)V"⟩, 23) := ⟨⟨by decide +kernel, by decide +kernel⟩, List.mem_of_getElem? (i := 813) (by decide +kernel), List.mem_of_getElem? (i := 1040) (by decide +kernel), List.mem_of_getElem? (i := 1041) (by decide +kernel)⟩
theorem lw_p49 : lw_okq (⟨"RunColumnsModel", "isSeen", "(II)Z"⟩, 23) := ⟨⟨by decide +kernel, by decide +kernel⟩, List.mem_of_getElem? (i := 813) (by decide +kernel), List.mem_of_getElem? (i := 1060) (by decide +kernel), List.mem_of_getElem? (i := 1061) (by decide +kernel)⟩
theorem lw_p50 : lw_okq (⟨"RunColumnsModel", "does", "(II)V"⟩, 23) := ⟨⟨by decide +kernel, by decide +kernel⟩, List.mem_of_getElem? (i := 813) (by decide +kernel), List.mem_of_getElem? (i := 1090) (by decide +kernel), List.mem_of_getElem? (i := 1091) (by decide +kernel)⟩
def lw_privs_4 : List (MethodName × Nat) := [(⟨"RunColumnsModel", "grouped", "(II)V"⟩, 23), (⟨"RunColumnsModel", "isSeen", "(II)Z"⟩, 23), (⟨"RunColumnsModel", "does", "(II)V"⟩, 23)]
theorem lw_r4 : ∀ q ∈ lw_privs_4, lw_okq q := List.forall_mem_cons.mpr ⟨lw_p48, List.forall_mem_cons.mpr ⟨lw_p49, List.forall_mem_cons.mpr ⟨lw_p50, fun _ h => absurd h List.not_mem_nil⟩⟩⟩
def lw_privs : List (MethodName × Nat) := lw_privs_1 ++ (lw_privs_2 ++ (lw_privs_3 ++ (lw_privs_4)))
def lw_tbl : List Cond := k2_sels lw_privs ++ tables_1
theorem lw_privs_ok : ∀ q ∈ lw_privs, lw_okq q := by
  show ∀ q ∈ lw_privs_1 ++ (lw_privs_2 ++ (lw_privs_3 ++ (lw_privs_4))), lw_okq q
  exact List.forall_mem_append.mpr ⟨lw_r1, List.forall_mem_append.mpr ⟨lw_r2, List.forall_mem_append.mpr ⟨lw_r3, lw_r4⟩⟩⟩
-- ===== end of PART A; then your names; then what follows =====
def RX0 : String := "RunColumns$Bits"
def TX0 : u_T := fun k => match k with
  | 0 => ("RunColumns$Bits", "low", "J", false)
  | _ => ("RunColumns$Bits", "high", "J", false)
def tyX0 : Nat → FieldType := fun k => match k with
  | 0 => .long
  | _ => .long
abbrev wsX00 : List Cond := u_ws RX0 TX0 2
theorem nmX0 : ∀ a, a < 2 → ∀ b, b < 2 → a ≠ b → (TX0 a).2.1 ≠ (TX0 b).2.1 := by decide +kernel
theorem tyX0_ok : ∀ k, k < 2 → parseFieldDescriptor (TX0 k).2.2.1 = some (tyX0 k) := by decide +kernel
abbrev cX0_init : ByteArray := prog_2_method_1_code
def yX0_init : MethodName := ⟨RX0, "<init>", "()V"⟩
abbrev cX0_firstOnes : ByteArray := prog_2_method_2_code
def yX0_firstOnes : MethodName := ⟨RX0, "firstOnes", "(I)J"⟩
abbrev cX0_has : ByteArray := prog_2_method_3_code
def yX0_has : MethodName := ⟨RX0, "has", "(I)Z"⟩
abbrev cX0_put : ByteArray := prog_2_method_4_code
def yX0_put : MethodName := ⟨RX0, "put", "(I)V"⟩
abbrev cX0_become : ByteArray := prog_2_method_5_code
def yX0_become : MethodName := ⟨RX0, "become", "(LRunColumns$Bits;)V"⟩
abbrev cX0_becomeOnes : ByteArray := prog_2_method_6_code
def yX0_becomeOnes : MethodName := ⟨RX0, "becomeOnes", "(I)V"⟩
abbrev cX0_becomeZeros : ByteArray := prog_2_method_7_code
def yX0_becomeZeros : MethodName := ⟨RX0, "becomeZeros", "()V"⟩
abbrev cX0_cutTo : ByteArray := prog_2_method_8_code
def yX0_cutTo : MethodName := ⟨RX0, "cutTo", "(I)V"⟩
abbrev cX0_turn : ByteArray := prog_2_method_9_code
def yX0_turn : MethodName := ⟨RX0, "turn", "(I)V"⟩
abbrev cX0_keepThoseOf : ByteArray := prog_2_method_10_code
def yX0_keepThoseOf : MethodName := ⟨RX0, "keepThoseOf", "(LRunColumns$Bits;)V"⟩
abbrev cX0_takeThoseOf : ByteArray := prog_2_method_11_code
def yX0_takeThoseOf : MethodName := ⟨RX0, "takeThoseOf", "(LRunColumns$Bits;)V"⟩
abbrev cX0_ones : ByteArray := prog_2_method_12_code
def yX0_ones : MethodName := ⟨RX0, "ones", "()I"⟩
abbrev cX0_runsWithin : ByteArray := prog_2_method_13_code
def yX0_runsWithin : MethodName := ⟨RX0, "runsWithin", "(I)I"⟩
abbrev cX0_endOfRun : ByteArray := prog_2_method_14_code
def yX0_endOfRun : MethodName := ⟨RX0, "endOfRun", "(II)I"⟩
abbrev cX0_startOfRun : ByteArray := prog_2_method_15_code
def yX0_startOfRun : MethodName := ⟨RX0, "startOfRun", "(II)I"⟩
abbrev cX0_placeOfOne : ByteArray := prog_2_method_16_code
def yX0_placeOfOne : MethodName := ⟨RX0, "placeOfOne", "(II)I"⟩
def RX1 : String := "RunColumns$Groups"
def TX1 : u_T := fun k => match k with
  | 0 => ("RunColumns$Groups", "inGroup", "LRunColumns$Bits;", true)
  | 1 => ("RunColumns$Groups", "sizes", "[I", true)
  | _ => ("RunColumns$Groups", "total", "I", false)
def tyX1 : Nat → FieldType := fun k => match k with
  | 0 => .object "RunColumns$Bits"
  | 1 => .array .int
  | _ => .int
abbrev wsX10 : List Cond := u_ws RX1 TX1 3
theorem nmX1 : ∀ a, a < 3 → ∀ b, b < 3 → a ≠ b → (TX1 a).2.1 ≠ (TX1 b).2.1 := by decide +kernel
theorem tyX1_ok : ∀ k, k < 3 → parseFieldDescriptor (TX1 k).2.2.1 = some (tyX1 k) := by decide +kernel
abbrev cX1_init : ByteArray := prog_3_method_1_code
def yX1_init : MethodName := ⟨RX1, "<init>", "()V"⟩
abbrev cX1_fill : ByteArray := prog_3_method_2_code
def yX1_fill : MethodName := ⟨RX1, "fill", "(LRunColumns$Bits;LRunColumns$Rows;I)V"⟩
abbrev cX1_sum : ByteArray := prog_3_method_3_code
def yX1_sum : MethodName := ⟨RX1, "sum", "()I"⟩
abbrev cX1_least : ByteArray := prog_3_method_4_code
def yX1_least : MethodName := ⟨RX1, "least", "()I"⟩
abbrev cX1_greatest : ByteArray := prog_3_method_5_code
def yX1_greatest : MethodName := ⟨RX1, "greatest", "()I"⟩
abbrev cX1_middle : ByteArray := prog_3_method_6_code
def yX1_middle : MethodName := ⟨RX1, "middle", "()I"⟩
abbrev cX1_unlike : ByteArray := prog_3_method_7_code
def yX1_unlike : MethodName := ⟨RX1, "unlike", "()I"⟩
abbrev cX1_greatestGroup : ByteArray := prog_3_method_8_code
def yX1_greatestGroup : MethodName := ⟨RX1, "greatestGroup", "()I"⟩
def RX2 : String := "RunColumns$Pairs"
def TX2 : u_T := fun k => match k with
  | 0 => ("RunColumns$Pairs", "most", "I", true)
  | 1 => ("RunColumns$Pairs", "firsts", "[I", true)
  | 2 => ("RunColumns$Pairs", "seconds", "[I", true)
  | _ => ("RunColumns$Pairs", "size", "I", false)
def tyX2 : Nat → FieldType := fun k => match k with
  | 0 => .int
  | 1 => .array .int
  | 2 => .array .int
  | _ => .int
abbrev wsX20 : List Cond := u_ws RX2 TX2 4
theorem nmX2 : ∀ a, a < 4 → ∀ b, b < 4 → a ≠ b → (TX2 a).2.1 ≠ (TX2 b).2.1 := by decide +kernel
theorem tyX2_ok : ∀ k, k < 4 → parseFieldDescriptor (TX2 k).2.2.1 = some (tyX2 k) := by decide +kernel
abbrev cX2_init : ByteArray := prog_4_method_1_code
def yX2_init : MethodName := ⟨RX2, "<init>", "(I)V"⟩
abbrev cX2_append : ByteArray := prog_4_method_2_code
def yX2_append : MethodName := ⟨RX2, "append", "(II)I"⟩
abbrev cX2_become : ByteArray := prog_4_method_3_code
def yX2_become : MethodName := ⟨RX2, "become", "(LRunColumns$Pairs;)V"⟩
def RX3 : String := "RunColumns$Query"
def TX3 : u_T := fun k => match k with
  | 0 => ("RunColumns$Query", "sorts", "[B", true)
  | 1 => ("RunColumns$Query", "columns", "[B", true)
  | 2 => ("RunColumns$Query", "leasts", "[B", true)
  | 3 => ("RunColumns$Query", "greatests", "[B", true)
  | _ => ("RunColumns$Query", "size", "I", false)
def tyX3 : Nat → FieldType := fun k => match k with
  | 0 => .array .byte
  | 1 => .array .byte
  | 2 => .array .byte
  | 3 => .array .byte
  | _ => .int
abbrev wsX30 : List Cond := u_ws RX3 TX3 5
theorem nmX3 : ∀ a, a < 5 → ∀ b, b < 5 → a ≠ b → (TX3 a).2.1 ≠ (TX3 b).2.1 := by decide +kernel
theorem tyX3_ok : ∀ k, k < 5 → parseFieldDescriptor (TX3 k).2.2.1 = some (tyX3 k) := by decide +kernel
abbrev cX3_init : ByteArray := prog_5_method_1_code
def yX3_init : MethodName := ⟨RX3, "<init>", "()V"⟩
abbrev cX3_appendJoin : ByteArray := prog_5_method_2_code
def yX3_appendJoin : MethodName := ⟨RX3, "appendJoin", "(I)V"⟩
abbrev cX3_appendLeaf : ByteArray := prog_5_method_3_code
def yX3_appendLeaf : MethodName := ⟨RX3, "appendLeaf", "(IIII)V"⟩
abbrev cX3_lastSort : ByteArray := prog_5_method_4_code
def yX3_lastSort : MethodName := ⟨RX3, "lastSort", "()I"⟩
abbrev cX3_stepsBetween : ByteArray := prog_5_method_5_code
def yX3_stepsBetween : MethodName := ⟨RX3, "stepsBetween", "(II)I"⟩
def RX4 : String := "RunColumns$Reader"
def TX4 : u_T := fun k => match k with
  | 0 => ("RunColumns$Reader", "signs", "[B", true)
  | 1 => ("RunColumns$Reader", "length", "I", false)
  | 2 => ("RunColumns$Reader", "place", "I", false)
  | _ => ("RunColumns$Reader", "fault", "I", false)
def tyX4 : Nat → FieldType := fun k => match k with
  | 0 => .array .byte
  | 1 => .int
  | 2 => .int
  | _ => .int
abbrev wsX40 : List Cond := u_ws RX4 TX4 4
theorem nmX4 : ∀ a, a < 4 → ∀ b, b < 4 → a ≠ b → (TX4 a).2.1 ≠ (TX4 b).2.1 := by decide +kernel
theorem tyX4_ok : ∀ k, k < 4 → parseFieldDescriptor (TX4 k).2.2.1 = some (tyX4 k) := by decide +kernel
abbrev cX4_init : ByteArray := prog_6_method_1_code
def yX4_init : MethodName := ⟨RX4, "<init>", "()V"⟩
abbrev cX4_append : ByteArray := prog_6_method_2_code
def yX4_append : MethodName := ⟨RX4, "append", "(I)V"⟩
abbrev cX4_readInto : ByteArray := prog_6_method_3_code
def yX4_readInto : MethodName := ⟨RX4, "readInto", "(LRunColumns$Query;)I"⟩
abbrev cX4_readEither : ByteArray := prog_6_method_4_code
def yX4_readEither : MethodName := ⟨RX4, "readEither", "(LRunColumns$Query;I)V"⟩
abbrev cX4_readBoth : ByteArray := prog_6_method_5_code
def yX4_readBoth : MethodName := ⟨RX4, "readBoth", "(LRunColumns$Query;I)V"⟩
abbrev cX4_readFactor : ByteArray := prog_6_method_6_code
def yX4_readFactor : MethodName := ⟨RX4, "readFactor", "(LRunColumns$Query;I)V"⟩
abbrev cX4_readQuestion : ByteArray := prog_6_method_7_code
def yX4_readQuestion : MethodName := ⟨RX4, "readQuestion", "(LRunColumns$Query;)V"⟩
abbrev cX4_passColumn : ByteArray := prog_6_method_8_code
def yX4_passColumn : MethodName := ⟨RX4, "passColumn", "()I"⟩
abbrev cX4_passSort : ByteArray := prog_6_method_9_code
def yX4_passSort : MethodName := ⟨RX4, "passSort", "()I"⟩
abbrev cX4_passValue : ByteArray := prog_6_method_10_code
def yX4_passValue : MethodName := ⟨RX4, "passValue", "()I"⟩
abbrev cX4_passClosing : ByteArray := prog_6_method_11_code
def yX4_passClosing : MethodName := ⟨RX4, "passClosing", "()V"⟩
abbrev cX4_blameWhatFollows : ByteArray := prog_6_method_12_code
def yX4_blameWhatFollows : MethodName := ⟨RX4, "blameWhatFollows", "()V"⟩
abbrev cX4_isJoinedBy : ByteArray := prog_6_method_13_code
def yX4_isJoinedBy : MethodName := ⟨RX4, "isJoinedBy", "(Ljava/lang/String;)Z"⟩
abbrev cX4_passJoin : ByteArray := prog_6_method_14_code
def yX4_passJoin : MethodName := ⟨RX4, "passJoin", "(Ljava/lang/String;)V"⟩
abbrev cX4_isWordAt : ByteArray := prog_6_method_15_code
def yX4_isWordAt : MethodName := ⟨RX4, "isWordAt", "(ILjava/lang/String;)Z"⟩
abbrev cX4_passWord : ByteArray := prog_6_method_16_code
def yX4_passWord : MethodName := ⟨RX4, "passWord", "(Ljava/lang/String;)V"⟩
abbrev cX4_pass : ByteArray := prog_6_method_17_code
def yX4_pass : MethodName := ⟨RX4, "pass", "(C)V"⟩
abbrev cX4_blame : ByteArray := prog_6_method_18_code
def yX4_blame : MethodName := ⟨RX4, "blame", "(I)V"⟩
abbrev cX4_isLetter : ByteArray := prog_6_method_19_code
def yX4_isLetter : MethodName := ⟨RX4, "isLetter", "(I)Z"⟩
abbrev cX4_isDigit : ByteArray := prog_6_method_20_code
def yX4_isDigit : MethodName := ⟨RX4, "isDigit", "(I)Z"⟩
abbrev cX4_signAt : ByteArray := prog_6_method_21_code
def yX4_signAt : MethodName := ⟨RX4, "signAt", "(I)I"⟩
def RX5 : String := "RunColumns$Rows"
def TX5 : u_T := fun k => match k with
  | 0 => ("RunColumns$Rows", "bits", "[LRunColumns$Bits;", true)
  | _ => ("RunColumns$Rows", "size", "I", false)
def tyX5 : Nat → FieldType := fun k => match k with
  | 0 => .array (.object "RunColumns$Bits")
  | _ => .int
abbrev wsX50 : List Cond := u_ws RX5 TX5 2
theorem nmX5 : ∀ a, a < 2 → ∀ b, b < 2 → a ≠ b → (TX5 a).2.1 ≠ (TX5 b).2.1 := by decide +kernel
theorem tyX5_ok : ∀ k, k < 2 → parseFieldDescriptor (TX5 k).2.2.1 = some (tyX5 k) := by decide +kernel
abbrev cX5_init : ByteArray := prog_7_method_1_code
def yX5_init : MethodName := ⟨RX5, "<init>", "()V"⟩
abbrev cX5_hasRow : ByteArray := prog_7_method_2_code
def yX5_hasRow : MethodName := ⟨RX5, "hasRow", "(I)Z"⟩
abbrev cX5_isFull : ByteArray := prog_7_method_3_code
def yX5_isFull : MethodName := ⟨RX5, "isFull", "()Z"⟩
abbrev cX5_bitsOf : ByteArray := prog_7_method_4_code
def yX5_bitsOf : MethodName := ⟨RX5, "bitsOf", "(II)LRunColumns$Bits;"⟩
abbrev cX5_valueOf : ByteArray := prog_7_method_5_code
def yX5_valueOf : MethodName := ⟨RX5, "valueOf", "(II)I"⟩
abbrev cX5_append : ByteArray := prog_7_method_6_code
def yX5_append : MethodName := ⟨RX5, "append", "(IIII)V"⟩
abbrev cX5_appendLike : ByteArray := prog_7_method_7_code
def yX5_appendLike : MethodName := ⟨RX5, "appendLike", "(I)V"⟩
abbrev cX5_putLast : ByteArray := prog_7_method_8_code
def yX5_putLast : MethodName := ⟨RX5, "putLast", "(II)V"⟩
abbrev cX5_cutTo : ByteArray := prog_7_method_9_code
def yX5_cutTo : MethodName := ⟨RX5, "cutTo", "(I)V"⟩
abbrev cX5_become : ByteArray := prog_7_method_10_code
def yX5_become : MethodName := ⟨RX5, "become", "(LRunColumns$Rows;)V"⟩
abbrev cX5_runsOfSlices : ByteArray := prog_7_method_11_code
def yX5_runsOfSlices : MethodName := ⟨RX5, "runsOfSlices", "(I)I"⟩
def RX6 : String := "RunColumns$State"
def TX6 : u_T := fun k => match k with
  | 0 => ("RunColumns$State", "rows", "LRunColumns$Rows;", true)
  | 1 => ("RunColumns$State", "marks", "[I", true)
  | 2 => ("RunColumns$State", "markCount", "I", false)
  | 3 => ("RunColumns$State", "seen", "LRunColumns$Pairs;", true)
  | 4 => ("RunColumns$State", "plan", "LRunColumns$Pairs;", true)
  | _ => ("RunColumns$State", "book", "LRunColumns$Pairs;", true)
def tyX6 : Nat → FieldType := fun k => match k with
  | 0 => .object "RunColumns$Rows"
  | 1 => .array .int
  | 2 => .int
  | 3 => .object "RunColumns$Pairs"
  | 4 => .object "RunColumns$Pairs"
  | _ => .object "RunColumns$Pairs"
abbrev wsX60 : List Cond := u_ws RX6 TX6 6
theorem nmX6 : ∀ a, a < 6 → ∀ b, b < 6 → a ≠ b → (TX6 a).2.1 ≠ (TX6 b).2.1 := by decide +kernel
theorem tyX6_ok : ∀ k, k < 6 → parseFieldDescriptor (TX6 k).2.2.1 = some (tyX6 k) := by decide +kernel
abbrev cX6_init : ByteArray := prog_8_method_1_code
def yX6_init : MethodName := ⟨RX6, "<init>", "()V"⟩
abbrev cX6_hasMark : ByteArray := prog_8_method_2_code
def yX6_hasMark : MethodName := ⟨RX6, "hasMark", "(I)Z"⟩
abbrev cX6_become : ByteArray := prog_8_method_3_code
def yX6_become : MethodName := ⟨RX6, "become", "(LRunColumns$State;)V"⟩
abbrev cX6_isSeenBelow : ByteArray := prog_8_method_4_code
def yX6_isSeenBelow : MethodName := ⟨RX6, "isSeenBelow", "(II)Z"⟩
abbrev cX6_tryPlan : ByteArray := prog_8_method_5_code
def yX6_tryPlan : MethodName := ⟨RX6, "tryPlan", "(LRunColumns$Rows;)V"⟩
abbrev cX6_tryStep : ByteArray := prog_8_method_6_code
def yX6_tryStep : MethodName := ⟨RX6, "tryStep", "(IILRunColumns$Rows;)V"⟩
def RX7 : String := "RunColumns$Tape"
def TX7 : u_T := fun k => match k with
  | 0 => ("RunColumns$Tape", "items", "[J", true)
  | 1 => ("RunColumns$Tape", "sort", "I", false)
  | _ => ("RunColumns$Tape", "size", "I", false)
def tyX7 : Nat → FieldType := fun k => match k with
  | 0 => .array .long
  | 1 => .int
  | _ => .int
abbrev wsX70 : List Cond := u_ws RX7 TX7 3
theorem nmX7 : ∀ a, a < 3 → ∀ b, b < 3 → a ≠ b → (TX7 a).2.1 ≠ (TX7 b).2.1 := by decide +kernel
theorem tyX7_ok : ∀ k, k < 3 → parseFieldDescriptor (TX7 k).2.2.1 = some (tyX7 k) := by decide +kernel
abbrev cX7_init : ByteArray := prog_9_method_1_code
def yX7_init : MethodName := ⟨RX7, "<init>", "()V"⟩
abbrev cX7_isNothing : ByteArray := prog_9_method_2_code
def yX7_isNothing : MethodName := ⟨RX7, "isNothing", "()Z"⟩
abbrev cX7_hasItem : ByteArray := prog_9_method_3_code
def yX7_hasItem : MethodName := ⟨RX7, "hasItem", "(I)Z"⟩
abbrev cX7_hasStretch : ByteArray := prog_9_method_4_code
def yX7_hasStretch : MethodName := ⟨RX7, "hasStretch", "(II)Z"⟩
abbrev cX7_become : ByteArray := prog_9_method_5_code
def yX7_become : MethodName := ⟨RX7, "become", "(II)V"⟩
abbrev cX7_put : ByteArray := prog_9_method_6_code
def yX7_put : MethodName := ⟨RX7, "put", "(IJ)V"⟩
def RX8 : String := "RunColumns$Work"
def TX8 : u_T := fun k => match k with
  | 0 => ("RunColumns$Work", "results", "[LRunColumns$Bits;", true)
  | 1 => ("RunColumns$Work", "costs", "[I", true)
  | 2 => ("RunColumns$Work", "depths", "[I", true)
  | _ => ("RunColumns$Work", "height", "I", false)
def tyX8 : Nat → FieldType := fun k => match k with
  | 0 => .array (.object "RunColumns$Bits")
  | 1 => .array .int
  | 2 => .array .int
  | _ => .int
abbrev wsX80 : List Cond := u_ws RX8 TX8 4
theorem nmX8 : ∀ a, a < 4 → ∀ b, b < 4 → a ≠ b → (TX8 a).2.1 ≠ (TX8 b).2.1 := by decide +kernel
theorem tyX8_ok : ∀ k, k < 4 → parseFieldDescriptor (TX8 k).2.2.1 = some (tyX8 k) := by decide +kernel
abbrev cX8_init : ByteArray := prog_10_method_1_code
def yX8_init : MethodName := ⟨RX8, "<init>", "()V"⟩
abbrev cX8_result : ByteArray := prog_10_method_2_code
def yX8_result : MethodName := ⟨RX8, "result", "()LRunColumns$Bits;"⟩
abbrev cX8_cost : ByteArray := prog_10_method_3_code
def yX8_cost : MethodName := ⟨RX8, "cost", "()I"⟩
abbrev cX8_depth : ByteArray := prog_10_method_4_code
def yX8_depth : MethodName := ⟨RX8, "depth", "()I"⟩
abbrev cX8_goThrough : ByteArray := prog_10_method_5_code
def yX8_goThrough : MethodName := ⟨RX8, "goThrough", "(LRunColumns$Query;LRunColumns$Rows;)V"⟩
abbrev cX8_turn : ByteArray := prog_10_method_6_code
def yX8_turn : MethodName := ⟨RX8, "turn", "(LRunColumns$Rows;)V"⟩
abbrev cX8_join : ByteArray := prog_10_method_7_code
def yX8_join : MethodName := ⟨RX8, "join", "(ILRunColumns$Rows;)V"⟩
abbrev cX8_ask : ByteArray := prog_10_method_8_code
def yX8_ask : MethodName := ⟨RX8, "ask", "(LRunColumns$Query;ILRunColumns$Rows;)V"⟩
def RX9 : String := "RunColumns"
def TX9 : u_T := fun k => match k with
  | 0 => ("RunColumns", "now", "LRunColumns$State;", true)
  | 1 => ("RunColumns", "imaged", "LRunColumns$State;", true)
  | 2 => ("RunColumns", "hasImage", "Z", false)
  | 3 => ("RunColumns", "reader", "LRunColumns$Reader;", true)
  | 4 => ("RunColumns", "queries", "[LRunColumns$Query;", true)
  | 5 => ("RunColumns", "queryCount", "I", false)
  | 6 => ("RunColumns", "tapes", "[LRunColumns$Tape;", true)
  | 7 => ("RunColumns", "work", "LRunColumns$Work;", true)
  | 8 => ("RunColumns", "otherWork", "LRunColumns$Work;", true)
  | 9 => ("RunColumns", "scratch", "LRunColumns$Bits;", true)
  | 10 => ("RunColumns", "groups", "LRunColumns$Groups;", true)
  | _ => ("RunColumns", "trial", "LRunColumns$Rows;", true)
def tyX9 : Nat → FieldType := fun k => match k with
  | 0 => .object "RunColumns$State"
  | 1 => .object "RunColumns$State"
  | 2 => .boolean
  | 3 => .object "RunColumns$Reader"
  | 4 => .array (.object "RunColumns$Query")
  | 5 => .int
  | 6 => .array (.object "RunColumns$Tape")
  | 7 => .object "RunColumns$Work"
  | 8 => .object "RunColumns$Work"
  | 9 => .object "RunColumns$Bits"
  | 10 => .object "RunColumns$Groups"
  | _ => .object "RunColumns$Rows"
abbrev wsX90 : List Cond := u_ws RX9 TX9 12
theorem nmX9 : ∀ a, a < 12 → ∀ b, b < 12 → a ≠ b → (TX9 a).2.1 ≠ (TX9 b).2.1 := by decide +kernel
theorem tyX9_ok : ∀ k, k < 12 → parseFieldDescriptor (TX9 k).2.2.1 = some (tyX9 k) := by decide +kernel
abbrev cX9_init : ByteArray := prog_1_method_1_code
def yX9_init : MethodName := ⟨RX9, "<init>", "()V"⟩
abbrev cX9_add : ByteArray := prog_1_method_2_code
def yX9_add : MethodName := ⟨RX9, "add", "(IIII)I"⟩
abbrev cX9_at : ByteArray := prog_1_method_3_code
def yX9_at : MethodName := ⟨RX9, "at", "(II)I"⟩
abbrev cX9_mark : ByteArray := prog_1_method_4_code
def yX9_mark : MethodName := ⟨RX9, "mark", "()I"⟩
abbrev cX9_back : ByteArray := prog_1_method_5_code
def yX9_back : MethodName := ⟨RX9, "back", "(I)I"⟩
abbrev cX9_runs : ByteArray := prog_1_method_6_code
def yX9_runs : MethodName := ⟨RX9, "runs", "(II)I"⟩
abbrev cX9_run : ByteArray := prog_1_method_7_code
def yX9_run : MethodName := ⟨RX9, "run", "(III)I"⟩
abbrev cX9_feed : ByteArray := prog_1_method_8_code
def yX9_feed : MethodName := ⟨RX9, "feed", "(I)I"⟩
abbrev cX9_query : ByteArray := prog_1_method_9_code
def yX9_query : MethodName := ⟨RX9, "query", "()I"⟩
abbrev cX9_of : ByteArray := prog_1_method_10_code
def yX9_of : MethodName := ⟨RX9, "of", "(II)I"⟩
abbrev cX9_row : ByteArray := prog_1_method_11_code
def yX9_row : MethodName := ⟨RX9, "row", "(II)I"⟩
abbrev cX9_group : ByteArray := prog_1_method_12_code
def yX9_group : MethodName := ⟨RX9, "group", "(III)I"⟩
abbrev cX9_edge : ByteArray := prog_1_method_13_code
def yX9_edge : MethodName := ⟨RX9, "edge", "(III)I"⟩
abbrev cX9_two : ByteArray := prog_1_method_14_code
def yX9_two : MethodName := ⟨RX9, "two", "(III)I"⟩
abbrev cX9_see : ByteArray := prog_1_method_15_code
def yX9_see : MethodName := ⟨RX9, "see", "(IZ)I"⟩
abbrev cX9_bounds : ByteArray := prog_1_method_16_code
def yX9_bounds : MethodName := ⟨RX9, "bounds", "(II)I"⟩
abbrev cX9_odds : ByteArray := prog_1_method_17_code
def yX9_odds : MethodName := ⟨RX9, "odds", "(II)J"⟩
abbrev cX9_mean : ByteArray := prog_1_method_18_code
def yX9_mean : MethodName := ⟨RX9, "mean", "(III)J"⟩
abbrev cX9_plan : ByteArray := prog_1_method_19_code
def yX9_plan : MethodName := ⟨RX9, "plan", "(II)I"⟩
abbrev cX9_ends : ByteArray := prog_1_method_20_code
def yX9_ends : MethodName := ⟨RX9, "ends", "(II)I"⟩
abbrev cX9_book : ByteArray := prog_1_method_21_code
def yX9_book : MethodName := ⟨RX9, "book", "(II)I"⟩
abbrev cX9_looked : ByteArray := prog_1_method_22_code
def yX9_looked : MethodName := ⟨RX9, "looked", "()I"⟩
abbrev cX9_judge : ByteArray := prog_1_method_23_code
def yX9_judge : MethodName := ⟨RX9, "judge", "(III)I"⟩
abbrev cX9_image : ByteArray := prog_1_method_24_code
def yX9_image : MethodName := ⟨RX9, "image", "()I"⟩
abbrev cX9_undo : ByteArray := prog_1_method_25_code
def yX9_undo : MethodName := ⟨RX9, "undo", "()I"⟩
abbrev cX9_taken : ByteArray := prog_1_method_26_code
def yX9_taken : MethodName := ⟨RX9, "taken", "(II)I"⟩
abbrev cX9_count : ByteArray := prog_1_method_27_code
def yX9_count : MethodName := ⟨RX9, "count", "(I)I"⟩
abbrev cX9_tape : ByteArray := prog_1_method_28_code
def yX9_tape : MethodName := ⟨RX9, "tape", "(III)I"⟩
abbrev cX9_item : ByteArray := prog_1_method_29_code
def yX9_item : MethodName := ⟨RX9, "item", "(IIJ)I"⟩
abbrev cX9_read : ByteArray := prog_1_method_30_code
def yX9_read : MethodName := ⟨RX9, "read", "(II)J"⟩
abbrev cX9_shift : ByteArray := prog_1_method_31_code
def yX9_shift : MethodName := ⟨RX9, "shift", "(IIIII)I"⟩
abbrev cX9_isValue : ByteArray := prog_1_method_32_code
def yX9_isValue : MethodName := ⟨RX9, "isValue", "(I)Z"⟩
abbrev cX9_isKind : ByteArray := prog_1_method_33_code
def yX9_isKind : MethodName := ⟨RX9, "isKind", "(I)Z"⟩
abbrev cX9_isColumn : ByteArray := prog_1_method_34_code
def yX9_isColumn : MethodName := ⟨RX9, "isColumn", "(I)Z"⟩
abbrev cX9_isPart : ByteArray := prog_1_method_35_code
def yX9_isPart : MethodName := ⟨RX9, "isPart", "(I)Z"⟩
abbrev cX9_isTape : ByteArray := prog_1_method_36_code
def yX9_isTape : MethodName := ⟨RX9, "isTape", "(I)Z"⟩
abbrev cX9_isQuery : ByteArray := prog_1_method_37_code
def yX9_isQuery : MethodName := ⟨RX9, "isQuery", "(I)Z"⟩
abbrev cX9_resultOf : ByteArray := prog_1_method_38_code
def yX9_resultOf : MethodName := ⟨RX9, "resultOf", "(I)LRunColumns$Bits;"⟩
abbrev cX9_inLowestTerms : ByteArray := prog_1_method_39_code
def yX9_inLowestTerms : MethodName := ⟨RX9, "inLowestTerms", "(III)J"⟩
abbrev cX9_greatestDivisor : ByteArray := prog_1_method_40_code
def yX9_greatestDivisor : MethodName := ⟨RX9, "greatestDivisor", "(II)I"⟩
def RX10 : String := "RunColumnsModel"
def TX10 : u_T := fun k => match k with
  | 0 => ("RunColumnsModel", "g", "[I", true)
  | 1 => ("RunColumnsModel", "saved", "[I", true)
  | 2 => ("RunColumnsModel", "kept", "[I", true)
  | 3 => ("RunColumnsModel", "isKept", "Z", false)
  | 4 => ("RunColumnsModel", "queries", "I", false)
  | 5 => ("RunColumnsModel", "roots", "[I", true)
  | 6 => ("RunColumnsModel", "sort", "[I", true)
  | 7 => ("RunColumnsModel", "column", "[I", true)
  | 8 => ("RunColumnsModel", "low", "[I", true)
  | 9 => ("RunColumnsModel", "high", "[I", true)
  | 10 => ("RunColumnsModel", "one", "[I", true)
  | 11 => ("RunColumnsModel", "other", "[I", true)
  | 12 => ("RunColumnsModel", "text", "[I", true)
  | 13 => ("RunColumnsModel", "textMany", "I", false)
  | 14 => ("RunColumnsModel", "groups", "[I", true)
  | 15 => ("RunColumnsModel", "tapeSort", "[I", true)
  | 16 => ("RunColumnsModel", "tapeSize", "[I", true)
  | 17 => ("RunColumnsModel", "tapes", "[[J", true)
  | 18 => ("RunColumnsModel", "moved", "[J", true)
  | 19 => ("RunColumnsModel", "spot", "I", false)
  | 20 => ("RunColumnsModel", "fault", "I", false)
  | 21 => ("RunColumnsModel", "nodes", "I", false)
  | _ => ("RunColumnsModel", "base", "I", false)
def tyX10 : Nat → FieldType := fun k => match k with
  | 0 => .array .int
  | 1 => .array .int
  | 2 => .array .int
  | 3 => .boolean
  | 4 => .int
  | 5 => .array .int
  | 6 => .array .int
  | 7 => .array .int
  | 8 => .array .int
  | 9 => .array .int
  | 10 => .array .int
  | 11 => .array .int
  | 12 => .array .int
  | 13 => .int
  | 14 => .array .int
  | 15 => .array .int
  | 16 => .array .int
  | 17 => .array (.array .long)
  | 18 => .array .long
  | 19 => .int
  | 20 => .int
  | 21 => .int
  | _ => .int
abbrev wsX100 : List Cond := u_ws RX10 TX10 23
theorem nmX10 : ∀ a, a < 23 → ∀ b, b < 23 → a ≠ b → (TX10 a).2.1 ≠ (TX10 b).2.1 := by decide +kernel
theorem tyX10_ok : ∀ k, k < 23 → parseFieldDescriptor (TX10 k).2.2.1 = some (tyX10 k) := by decide +kernel
abbrev cX10_init : ByteArray := prog_12_method_1_code
def yX10_init : MethodName := ⟨RX10, "<init>", "()V"⟩
abbrev cX10_in : ByteArray := prog_12_method_2_code
def yX10_in : MethodName := ⟨RX10, "in", "(III)Z"⟩
abbrev cX10_copy : ByteArray := prog_12_method_3_code
def yX10_copy : MethodName := ⟨RX10, "copy", "([I[I)V"⟩
abbrev cX10_isRow : ByteArray := prog_12_method_4_code
def yX10_isRow : MethodName := ⟨RX10, "isRow", "(I)Z"⟩
abbrev cX10_comes : ByteArray := prog_12_method_5_code
def yX10_comes : MethodName := ⟨RX10, "comes", "(IIII)I"⟩
abbrev cX10_add : ByteArray := prog_12_method_6_code
def yX10_add : MethodName := ⟨RX10, "add", "(IIII)I"⟩
abbrev cX10_at : ByteArray := prog_12_method_7_code
def yX10_at : MethodName := ⟨RX10, "at", "(II)I"⟩
abbrev cX10_mark : ByteArray := prog_12_method_8_code
def yX10_mark : MethodName := ⟨RX10, "mark", "()I"⟩
abbrev cX10_back : ByteArray := prog_12_method_9_code
def yX10_back : MethodName := ⟨RX10, "back", "(I)I"⟩
abbrev cX10_bit : ByteArray := prog_12_method_10_code
def yX10_bit : MethodName := ⟨RX10, "bit", "(III)Z"⟩
abbrev cX10_runsOf : ByteArray := prog_12_method_11_code
def yX10_runsOf : MethodName := ⟨RX10, "runsOf", "(II)I"⟩
abbrev cX10_runs : ByteArray := prog_12_method_12_code
def yX10_runs : MethodName := ⟨RX10, "runs", "(II)I"⟩
abbrev cX10_run : ByteArray := prog_12_method_13_code
def yX10_run : MethodName := ⟨RX10, "run", "(III)I"⟩
abbrev cX10_isOnes : ByteArray := prog_12_method_14_code
def yX10_isOnes : MethodName := ⟨RX10, "isOnes", "(III)Z"⟩
abbrev cX10_feed : ByteArray := prog_12_method_15_code
def yX10_feed : MethodName := ⟨RX10, "feed", "(I)I"⟩
abbrev cX10_signAt : ByteArray := prog_12_method_16_code
def yX10_signAt : MethodName := ⟨RX10, "signAt", "(I)I"⟩
abbrev cX10_wrong : ByteArray := prog_12_method_17_code
def yX10_wrong : MethodName := ⟨RX10, "wrong", "(I)V"⟩
abbrev cX10_must : ByteArray := prog_12_method_18_code
def yX10_must : MethodName := ⟨RX10, "must", "(I)V"⟩
abbrev cX10_wordEnd : ByteArray := prog_12_method_19_code
def yX10_wordEnd : MethodName := ⟨RX10, "wordEnd", "()I"⟩
abbrev cX10_word : ByteArray := prog_12_method_20_code
def yX10_word : MethodName := ⟨RX10, "word", "()I"⟩
abbrev cX10_node : ByteArray := prog_12_method_21_code
def yX10_node : MethodName := ⟨RX10, "node", "(IIIIII)I"⟩
abbrev cX10_value : ByteArray := prog_12_method_22_code
def yX10_value : MethodName := ⟨RX10, "value", "()I"⟩
abbrev cX10_columnHere : ByteArray := prog_12_method_23_code
def yX10_columnHere : MethodName := ⟨RX10, "columnHere", "(I)I"⟩
abbrev cX10_factor : ByteArray := prog_12_method_24_code
def yX10_factor : MethodName := ⟨RX10, "factor", "(I)I"⟩
abbrev cX10_follows : ByteArray := prog_12_method_25_code
def yX10_follows : MethodName := ⟨RX10, "follows", "(I)Z"⟩
abbrev cX10_both : ByteArray := prog_12_method_26_code
def yX10_both : MethodName := ⟨RX10, "both", "(I)I"⟩
abbrev cX10_either : ByteArray := prog_12_method_27_code
def yX10_either : MethodName := ⟨RX10, "either", "(I)I"⟩
abbrev cX10_query : ByteArray := prog_12_method_28_code
def yX10_query : MethodName := ⟨RX10, "query", "()I"⟩
abbrev cX10_isQuery : ByteArray := prog_12_method_29_code
def yX10_isQuery : MethodName := ⟨RX10, "isQuery", "(I)Z"⟩
abbrev cX10_isSo : ByteArray := prog_12_method_30_code
def yX10_isSo : MethodName := ⟨RX10, "isSo", "(II)Z"⟩
abbrev cX10_resultMany : ByteArray := prog_12_method_31_code
def yX10_resultMany : MethodName := ⟨RX10, "resultMany", "(I)I"⟩
abbrev cX10_resultRuns : ByteArray := prog_12_method_32_code
def yX10_resultRuns : MethodName := ⟨RX10, "resultRuns", "(I)I"⟩
abbrev cX10_cost : ByteArray := prog_12_method_33_code
def yX10_cost : MethodName := ⟨RX10, "cost", "(I)I"⟩
abbrev cX10_sortsIn : ByteArray := prog_12_method_34_code
def yX10_sortsIn : MethodName := ⟨RX10, "sortsIn", "(IZ)I"⟩
abbrev cX10_deepOf : ByteArray := prog_12_method_35_code
def yX10_deepOf : MethodName := ⟨RX10, "deepOf", "(I)I"⟩
abbrev cX10_rowAt : ByteArray := prog_12_method_36_code
def yX10_rowAt : MethodName := ⟨RX10, "rowAt", "(II)I"⟩
abbrev cX10_of : ByteArray := prog_12_method_37_code
def yX10_of : MethodName := ⟨RX10, "of", "(II)I"⟩
abbrev cX10_row : ByteArray := prog_12_method_38_code
def yX10_row : MethodName := ⟨RX10, "row", "(II)I"⟩
abbrev cX10_grouped : ByteArray := prog_12_method_39_code
def yX10_grouped : MethodName := ⟨RX10, "grouped", "(II)V"⟩
abbrev cX10_group : ByteArray := prog_12_method_40_code
def yX10_group : MethodName := ⟨RX10, "group", "(III)I"⟩
abbrev cX10_edge : ByteArray := prog_12_method_41_code
def yX10_edge : MethodName := ⟨RX10, "edge", "(III)I"⟩
abbrev cX10_two : ByteArray := prog_12_method_42_code
def yX10_two : MethodName := ⟨RX10, "two", "(III)I"⟩
abbrev cX10_see : ByteArray := prog_12_method_43_code
def yX10_see : MethodName := ⟨RX10, "see", "(IZ)I"⟩
abbrev cX10_isSeen : ByteArray := prog_12_method_44_code
def yX10_isSeen : MethodName := ⟨RX10, "isSeen", "(II)Z"⟩
abbrev cX10_bounds : ByteArray := prog_12_method_45_code
def yX10_bounds : MethodName := ⟨RX10, "bounds", "(II)I"⟩
abbrev cX10_common : ByteArray := prog_12_method_46_code
def yX10_common : MethodName := ⟨RX10, "common", "(II)I"⟩
abbrev cX10_part : ByteArray := prog_12_method_47_code
def yX10_part : MethodName := ⟨RX10, "part", "(III)J"⟩
abbrev cX10_odds : ByteArray := prog_12_method_48_code
def yX10_odds : MethodName := ⟨RX10, "odds", "(II)J"⟩
abbrev cX10_mean : ByteArray := prog_12_method_49_code
def yX10_mean : MethodName := ⟨RX10, "mean", "(III)J"⟩
abbrev cX10_plan : ByteArray := prog_12_method_50_code
def yX10_plan : MethodName := ⟨RX10, "plan", "(II)I"⟩
abbrev cX10_does : ByteArray := prog_12_method_51_code
def yX10_does : MethodName := ⟨RX10, "does", "(II)V"⟩
abbrev cX10_ends : ByteArray := prog_12_method_52_code
def yX10_ends : MethodName := ⟨RX10, "ends", "(II)I"⟩
abbrev cX10_book : ByteArray := prog_12_method_53_code
def yX10_book : MethodName := ⟨RX10, "book", "(II)I"⟩
abbrev cX10_looked : ByteArray := prog_12_method_54_code
def yX10_looked : MethodName := ⟨RX10, "looked", "()I"⟩
abbrev cX10_isTape : ByteArray := prog_12_method_55_code
def yX10_isTape : MethodName := ⟨RX10, "isTape", "(I)Z"⟩
abbrev cX10_judge : ByteArray := prog_12_method_56_code
def yX10_judge : MethodName := ⟨RX10, "judge", "(III)I"⟩
abbrev cX10_image : ByteArray := prog_12_method_57_code
def yX10_image : MethodName := ⟨RX10, "image", "()I"⟩
abbrev cX10_undo : ByteArray := prog_12_method_58_code
def yX10_undo : MethodName := ⟨RX10, "undo", "()I"⟩
abbrev cX10_taken : ByteArray := prog_12_method_59_code
def yX10_taken : MethodName := ⟨RX10, "taken", "(II)I"⟩
abbrev cX10_count : ByteArray := prog_12_method_60_code
def yX10_count : MethodName := ⟨RX10, "count", "(I)I"⟩
abbrev cX10_tape : ByteArray := prog_12_method_61_code
def yX10_tape : MethodName := ⟨RX10, "tape", "(III)I"⟩
abbrev cX10_fit : ByteArray := prog_12_method_62_code
def yX10_fit : MethodName := ⟨RX10, "fit", "(IJ)J"⟩
abbrev cX10_item : ByteArray := prog_12_method_63_code
def yX10_item : MethodName := ⟨RX10, "item", "(IIJ)I"⟩
abbrev cX10_read : ByteArray := prog_12_method_64_code
def yX10_read : MethodName := ⟨RX10, "read", "(II)J"⟩
abbrev cX10_shift : ByteArray := prog_12_method_65_code
def yX10_shift : MethodName := ⟨RX10, "shift", "(IIIII)I"⟩
def RJx145de : String := "java/io/Serializable"
def TJx145de : u_T := fun k => match k with
  | _ => ("", "", "", false)
def tyJx145de : Nat → FieldType := fun k => match k with
  | _ => .int
abbrev wsJx145de0 : List Cond := u_ws RJx145de TJx145de 0
theorem nmJx145de : ∀ a, a < 0 → ∀ b, b < 0 → a ≠ b → (TJx145de a).2.1 ≠ (TJx145de b).2.1 := by decide +kernel
theorem tyJx145de_ok : ∀ k, k < 0 → parseFieldDescriptor (TJx145de k).2.2.1 = some (tyJx145de k) := by decide +kernel
def RJx9f9b0 : String := "java/lang/CharSequence"
def TJx9f9b0 : u_T := fun k => match k with
  | _ => ("", "", "", false)
def tyJx9f9b0 : Nat → FieldType := fun k => match k with
  | _ => .int
abbrev wsJx9f9b00 : List Cond := u_ws RJx9f9b0 TJx9f9b0 0
theorem nmJx9f9b0 : ∀ a, a < 0 → ∀ b, b < 0 → a ≠ b → (TJx9f9b0 a).2.1 ≠ (TJx9f9b0 b).2.1 := by decide +kernel
theorem tyJx9f9b0_ok : ∀ k, k < 0 → parseFieldDescriptor (TJx9f9b0 k).2.2.1 = some (tyJx9f9b0 k) := by decide +kernel
def RJxb160c : String := "java/lang/Comparable"
def TJxb160c : u_T := fun k => match k with
  | _ => ("", "", "", false)
def tyJxb160c : Nat → FieldType := fun k => match k with
  | _ => .int
abbrev wsJxb160c0 : List Cond := u_ws RJxb160c TJxb160c 0
theorem nmJxb160c : ∀ a, a < 0 → ∀ b, b < 0 → a ≠ b → (TJxb160c a).2.1 ≠ (TJxb160c b).2.1 := by decide +kernel
theorem tyJxb160c_ok : ∀ k, k < 0 → parseFieldDescriptor (TJxb160c k).2.2.1 = some (tyJxb160c k) := by decide +kernel
def RJ13 : String := "java/lang/Long"
def TJ13 : u_T := fun k => match k with
  | _ => ("", "", "", false)
def tyJ13 : Nat → FieldType := fun k => match k with
  | _ => .int
abbrev wsJ130 : List Cond := u_ws RJ13 TJ13 0
theorem nmJ13 : ∀ a, a < 0 → ∀ b, b < 0 → a ≠ b → (TJ13 a).2.1 ≠ (TJ13 b).2.1 := by decide +kernel
theorem tyJ13_ok : ∀ k, k < 0 → parseFieldDescriptor (TJ13 k).2.2.1 = some (tyJ13 k) := by decide +kernel
abbrev cJ13_bitCount_95d88 : ByteArray := prog_13_method_50_code
def yJ13_bitCount_95d88 : MethodName := ⟨RJ13, "bitCount", "(J)I"⟩
def RJ9 : String := "java/lang/Math"
def TJ9 : u_T := fun k => match k with
  | _ => ("", "", "", false)
def tyJ9 : Nat → FieldType := fun k => match k with
  | _ => .int
abbrev wsJ90 : List Cond := u_ws RJ9 TJ9 0
theorem nmJ9 : ∀ a, a < 0 → ∀ b, b < 0 → a ≠ b → (TJ9 a).2.1 ≠ (TJ9 b).2.1 := by decide +kernel
theorem tyJ9_ok : ∀ k, k < 0 → parseFieldDescriptor (TJ9 k).2.2.1 = some (tyJ9 k) := by decide +kernel
abbrev cJ9_max_7cf53 : ByteArray := prog_14_method_65_code
def yJ9_max_7cf53 : MethodName := ⟨RJ9, "max", "(II)I"⟩
def RJ0 : String := "java/lang/String"
def TJ0 : u_T := fun k => match k with
  | _ => ("", "", "", false)
def tyJ0 : Nat → FieldType := fun k => match k with
  | _ => .int
abbrev wsJ00 : List Cond := u_ws RJ0 TJ0 0
theorem nmJ0 : ∀ a, a < 0 → ∀ b, b < 0 → a ≠ b → (TJ0 a).2.1 ≠ (TJ0 b).2.1 := by decide +kernel
theorem tyJ0_ok : ∀ k, k < 0 → parseFieldDescriptor (TJ0 k).2.2.1 = some (tyJ0 k) := by decide +kernel
abbrev cJ0_length_8abf5 : ByteArray := prog_15_method_54_code
def yJ0_length_8abf5 : MethodName := ⟨RJ0, "length", "()I"⟩
abbrev cJ0_charAt_5068e : ByteArray := prog_15_method_56_code
def yJ0_charAt_5068e : MethodName := ⟨RJ0, "charAt", "(I)C"⟩
abbrev cJ0_coder_7d493 : ByteArray := prog_15_method_152_code
def yJ0_coder_7d493 : MethodName := ⟨RJ0, "coder", "()B"⟩
abbrev cJ0_isLatin1_aae02 : ByteArray := prog_15_method_154_code
def yJ0_isLatin1_aae02 : MethodName := ⟨RJ0, "isLatin1", "()Z"⟩
abbrev cJ0_checkIndex_df160 : ByteArray := prog_15_method_155_code
def yJ0_checkIndex_df160 : MethodName := ⟨RJ0, "checkIndex", "(II)V"⟩
def RJ1 : String := "java/lang/StringLatin1"
def TJ1 : u_T := fun k => match k with
  | _ => ("", "", "", false)
def tyJ1 : Nat → FieldType := fun k => match k with
  | _ => .int
abbrev wsJ10 : List Cond := u_ws RJ1 TJ1 0
theorem nmJ1 : ∀ a, a < 0 → ∀ b, b < 0 → a ≠ b → (TJ1 a).2.1 ≠ (TJ1 b).2.1 := by decide +kernel
theorem tyJ1_ok : ∀ k, k < 0 → parseFieldDescriptor (TJ1 k).2.2.1 = some (tyJ1 k) := by decide +kernel
abbrev cJ1_charAt_3b067 : ByteArray := prog_16_method_2_code
def yJ1_charAt_3b067 : MethodName := ⟨RJ1, "charAt", "([BI)C"⟩
def RJ2 : String := "java/lang/StringUTF16"
def TJ2 : u_T := fun k => match k with
  | _ => ("", "", "", false)
def tyJ2 : Nat → FieldType := fun k => match k with
  | _ => .int
abbrev wsJ20 : List Cond := u_ws RJ2 TJ2 0
theorem nmJ2 : ∀ a, a < 0 → ∀ b, b < 0 → a ≠ b → (TJ2 a).2.1 ≠ (TJ2 b).2.1 := by decide +kernel
theorem tyJ2_ok : ∀ k, k < 0 → parseFieldDescriptor (TJ2 k).2.2.1 = some (tyJ2 k) := by decide +kernel
abbrev cJ2_getChar_3b067 : ByteArray := prog_17_method_5_code
def yJ2_getChar_3b067 : MethodName := ⟨RJ2, "getChar", "([BI)C"⟩
abbrev cJ2_length_9d52b : ByteArray := prog_17_method_6_code
def yJ2_length_9d52b : MethodName := ⟨RJ2, "length", "([B)I"⟩
abbrev cJ2_charAt_3b067 : ByteArray := prog_17_method_83_code
def yJ2_charAt_3b067 : MethodName := ⟨RJ2, "charAt", "([BI)C"⟩
abbrev cJ2_checkIndex_2214a : ByteArray := prog_17_method_91_code
def yJ2_checkIndex_2214a : MethodName := ⟨RJ2, "checkIndex", "(I[B)V"⟩
def RJ10 : String := "java/lang/System"
def TJ10 : u_T := fun k => match k with
  | _ => ("", "", "", false)
def tyJ10 : Nat → FieldType := fun k => match k with
  | _ => .int
abbrev wsJ100 : List Cond := u_ws RJ10 TJ10 0
theorem nmJ10 : ∀ a, a < 0 → ∀ b, b < 0 → a ≠ b → (TJ10 a).2.1 ≠ (TJ10 b).2.1 := by decide +kernel
theorem tyJ10_ok : ∀ k, k < 0 → parseFieldDescriptor (TJ10 k).2.2.1 = some (tyJ10 k) := by decide +kernel
def RJxfd54e : String := "java/lang/constant/Constable"
def TJxfd54e : u_T := fun k => match k with
  | _ => ("", "", "", false)
def tyJxfd54e : Nat → FieldType := fun k => match k with
  | _ => .int
abbrev wsJxfd54e0 : List Cond := u_ws RJxfd54e TJxfd54e 0
theorem nmJxfd54e : ∀ a, a < 0 → ∀ b, b < 0 → a ≠ b → (TJxfd54e a).2.1 ≠ (TJxfd54e b).2.1 := by decide +kernel
theorem tyJxfd54e_ok : ∀ k, k < 0 → parseFieldDescriptor (TJxfd54e k).2.2.1 = some (tyJxfd54e k) := by decide +kernel
def RJx3cf43 : String := "java/lang/constant/ConstantDesc"
def TJx3cf43 : u_T := fun k => match k with
  | _ => ("", "", "", false)
def tyJx3cf43 : Nat → FieldType := fun k => match k with
  | _ => .int
abbrev wsJx3cf430 : List Cond := u_ws RJx3cf43 TJx3cf43 0
theorem nmJx3cf43 : ∀ a, a < 0 → ∀ b, b < 0 → a ≠ b → (TJx3cf43 a).2.1 ≠ (TJx3cf43 b).2.1 := by decide +kernel
theorem tyJx3cf43_ok : ∀ k, k < 0 → parseFieldDescriptor (TJx3cf43 k).2.2.1 = some (tyJx3cf43 k) := by decide +kernel
def RJ7 : String := "java/util/Arrays"
def TJ7 : u_T := fun k => match k with
  | _ => ("", "", "", false)
def tyJ7 : Nat → FieldType := fun k => match k with
  | _ => .int
abbrev wsJ70 : List Cond := u_ws RJ7 TJ7 0
theorem nmJ7 : ∀ a, a < 0 → ∀ b, b < 0 → a ≠ b → (TJ7 a).2.1 ≠ (TJ7 b).2.1 := by decide +kernel
theorem tyJ7_ok : ∀ k, k < 0 → parseFieldDescriptor (TJ7 k).2.2.1 = some (tyJ7 k) := by decide +kernel
abbrev cJ7_fill_d0a16 : ByteArray := prog_19_method_101_code
def yJ7_fill_d0a16 : MethodName := ⟨RJ7, "fill", "([JJ)V"⟩
def RJ3 : String := "jdk/internal/util/Preconditions"
def TJ3 : u_T := fun k => match k with
  | _ => ("", "", "", false)
def tyJ3 : Nat → FieldType := fun k => match k with
  | _ => .int
abbrev wsJ30 : List Cond := u_ws RJ3 TJ3 0
theorem nmJ3 : ∀ a, a < 0 → ∀ b, b < 0 → a ≠ b → (TJ3 a).2.1 ≠ (TJ3 b).2.1 := by decide +kernel
theorem tyJ3_ok : ∀ k, k < 0 → parseFieldDescriptor (TJ3 k).2.2.1 = some (tyJ3 k) := by decide +kernel
abbrev cJ3_checkIndex_8e157 : ByteArray := prog_20_method_11_code
def yJ3_checkIndex_8e157 : MethodName := ⟨RJ3, "checkIndex", "(IILjava/util/function/BiFunction;)I"⟩
def RL : String := "RunColumnsLaw"
abbrev cL_law : ByteArray := code
def yL_law : MethodName := ⟨RL, "law", "([I)Z"⟩
abbrev vwCl : List vw_C := [(RX0, TX0, 2), (RX1, TX1, 3), (RX2, TX2, 4), (RX3, TX3, 5), (RX4, TX4, 4), (RX5, TX5, 2), (RX6, TX6, 6), (RX7, TX7, 3), (RX8, TX8, 4), (RX9, TX9, 12), (RX10, TX10, 23)]
end
section
/-! ===== the flat layer: one abstract heap, a judgement without its surroundings, contracts by equations ===== -/
abbrev zE : Type := (Nat × vp_A) ⊕ (Nat × List Value)
abbrev zH : Type := Nat → Option zE
/-- what is fixed for a run: classes and slots, array classes; where the new cells begin, the literals' cells; the script; a static that is a reference or null -/
abbrev zG : Type := (va_G × (Nat → ClassId)) × (Nat × (Nat → Nat) × (Nat → Nat)) × (Nat × Nat × (Nat → Int32)) × Value
abbrev zz (G : zG) : Nat := G.2.1.1
abbrev zsK (G : zG) : Nat → Nat := G.2.1.2.1
abbrev zsV (G : zG) : Nat → Nat := G.2.1.2.2
abbrev zb (G : zG) : Nat := G.2.2.1.1
abbrev zbL (G : zG) : Nat := G.2.2.1.2.1
abbrev zbx (G : zG) : Nat → Int32 := G.2.2.1.2.2
abbrev zfv (G : zG) : Value := G.2.2.2
abbrev zB (G : zG) : Nat → Prop := fun q => zz G ≤ q
def zT : Nat → FieldType
  | 0 => .int
  | 1 => .long
  | 2 => .byte
  | 3 => .object "RunColumns$Bits"
  | 4 => .object "RunColumns$Query"
  | 5 => .object "RunColumns$Tape"
  | _ => .array .long
def ztys (G : zG) : List (ClassId × FieldType) := (List.range 7).map (fun k => (G.1.2 k, zT k))
theorem ztys_at (G : zG) {k : Nat} (h : k < 7) : (ztys G)[k]? = some (G.1.2 k, zT k) := by
  simp [ztys, h]
def zcv (G : zG) : zE → va_E
  | .inl a => .inl (G.1.2 a.1, a.2)
  | .inr o => .inr o
def zlen : List Nat := [2, 3, 3, 3, 2, 5, 2]
def zbyt : List (List Int32) := [[111, 114], [97, 110, 100], [110, 111, 116], [97, 108, 108], [105, 115], [98, 101, 108, 111, 119], [105, 110]]
def zlit : List (Nat × String) := [(40, "or"), (57, "and"), (59, "not"), (82, "all"), (106, "is"), (108, "below"), (110, "in")]
/-- the words that every call hands on by themselves; those of nest mates -/
def lw_gd : List Cond := lw_tbl.filter goodWord
theorem zgd {w : Cond} (i : Nat) (h : lw_tbl[i]? = some w) (hg : goodWord w = true) : w ∈ lw_gd := List.mem_filter.mpr ⟨List.mem_of_getElem? h, hg⟩
def zns : Cond → Bool
  | .fieldLinkNest .. => true
  | .methodLinkNest .. => true
  | _ => false
theorem zns_warm {w : Cond} {s U : State} (hW : s.WarmedH U.vm) (h : zns w = true) (hZ : va_Nw w s) : va_Nw w U := by
  cases w <;> first | exact va_Nw.warmF hW hZ | exact va_Nw.warmM hW hZ | (cases h)
theorem zns_same {w : Cond} {s U : State} (hv : s.vm = U.vm) (h : zns w = true) (hZ : va_Nw w s) : va_Nw w U := by
  cases w <;> first | exact va_Nw.same rfl hv hZ | (cases h)
def zK (G : zG) (U : State) (H : Heap) : Prop :=
  va_K G.1.1 vwCl (ztys G) U ∧ va_Z "java/lang/String" "COMPACT_STRINGS" "Z" (.int 1) (zB G) U H ∧ vk_S 7 zlen zbyt (zsK G) (zsV G) (zB G) U H ∧
  (∀ i : Nat, i < 7 → vk_R "RunColumns$Reader" (zlit.getD i (0, "")).1 (zlit.getD i (0, "")).2 (zsK G i) U) ∧ (va_X (zb G) (zbL G) (zbx G) U H ∧ zb G < zz G) ∧ zz G ≤ H.size ∧
  va_Z "jdk/internal/util/Preconditions" "SIOOBE_FORMATTER" "Ljava/util/function/BiFunction;" (zfv G) (zB G) U H ∧ (zfv G).category = 1 ∧ (∀ w ∈ lw_tbl, zns w = true → va_Nw w U) ∧ (∀ C : String, Cond.arrayOver (.object C) ∈ lw_tbl → va_AO C U)
theorem zK.warm {G : zG} {s U : State} {H : Heap} (hW : s.WarmedH U.vm) (h : zK G s H) : zK G U H :=
  ⟨h.1.moved hW.alike, h.2.1.moved hW.alike, h.2.2.1.moved hW.alike, fun i hi => (h.2.2.2.1 i hi).warm hW, ⟨h.2.2.2.2.1.1.moved hW.alike, h.2.2.2.2.1.2⟩, h.2.2.2.2.2.1, h.2.2.2.2.2.2.1.moved hW.alike, h.2.2.2.2.2.2.2.1, fun w hw hn => zns_warm hW hn (h.2.2.2.2.2.2.2.2.1 w hw hn), fun C hC => (h.2.2.2.2.2.2.2.2.2 C hC).moved hW.alike⟩
theorem zK.same {G : zG} {s U : State} {H : Heap} (hv : U.vm = s.vm) (h : zK G s H) : zK G U H := by
  have hA : s.vm.Alike U.vm := by rw [hv]; exact Vm.Alike.refl _
  exact ⟨h.1.moved hA, h.2.1.moved hA, h.2.2.1.moved hA, fun i hi => (h.2.2.2.1 i hi).same hv, ⟨h.2.2.2.2.1.1.moved hA, h.2.2.2.2.1.2⟩, h.2.2.2.2.2.1, h.2.2.2.2.2.2.1.moved hA, h.2.2.2.2.2.2.2.1, fun w hw hn => zns_same hv.symm hn (h.2.2.2.2.2.2.2.2.1 w hw hn), fun C hC => (h.2.2.2.2.2.2.2.2.2 C hC).moved hA⟩
theorem zK.kept {G : zG} {s : State} {H H1 : Heap} (h : zK G s H) (hz : H.size ≤ H1.size) (hq : ∀ a : Nat, a < H.size → ¬ zB G a → H1[a]? = H[a]?) : zK G s H1 :=
  ⟨h.1, h.2.1.kept hq, h.2.2.1.kept hq, h.2.2.2.1, ⟨h.2.2.2.2.1.1.kept (hq _ (Nat.lt_of_lt_of_le h.2.2.2.2.1.2 h.2.2.2.2.2.1) (Nat.not_le.mpr h.2.2.2.2.1.2)), h.2.2.2.2.1.2⟩, Nat.le_trans h.2.2.2.2.2.1 hz, h.2.2.2.2.2.2.1.kept hq, h.2.2.2.2.2.2.2⟩
def zA (G : zG) (sz : Nat) (ah : zH) (H : Heap) : Prop := H.size = sz ∧ ∀ (a : Nat) (e : zE), ah a = some e → zz G ≤ a ∧ va_at G.1.1 vwCl (a, zcv G e) H
def zu (ah : zH) (a : Nat) (e : zE) : zH := fun b => if b = a then some e else ah b
theorem zu_same {ah : zH} {a : Nat} {e : zE} : zu ah a e a = some e := if_pos rfl
theorem zu_ne {ah : zH} {a b : Nat} {e : zE} (h : ¬ b = a) : zu ah a e b = ah b := if_neg h
theorem zA.set {G : zG} {sz a : Nat} {ah : zH} {e : zE} {H H1 : Heap} (h : zA G sz ah H) (ha : zz G ≤ a) (he : va_at G.1.1 vwCl (a, zcv G e) H1) (hz : H1.size = H.size) (oq : ∀ q : Nat, q ≠ a → H1[q]? = H[q]?) : zA G sz (zu ah a e) H1 := by
  refine ⟨hz.trans h.1, fun b e' hb => ?_⟩
  by_cases hba : b = a
  · subst hba
    rw [zu_same] at hb
    cases hb
    exact ⟨ha, he⟩
  · rw [zu_ne hba] at hb
    exact ⟨(h.2 b e' hb).1, (h.2 b e' hb).2.kept (oq b hba)⟩
theorem zA.new {G : zG} {sz : Nat} {ah : zH} {e : zE} {H H1 : Heap} (h : zA G sz ah H) (hG : zz G ≤ H.size) (he : va_at G.1.1 vwCl (sz, zcv G e) H1) (hz : H1.size = sz + 1) (oq : ∀ q : Nat, q < sz → H1[q]? = H[q]?) : zA G (sz + 1) (zu ah sz e) H1 := by
  refine ⟨hz, fun b e' hb => ?_⟩
  by_cases hba : b = sz
  · subst hba
    rw [zu_same] at hb
    cases hb
    exact ⟨by rw [← h.1]; exact hG, he⟩
  · rw [zu_ne hba] at hb
    obtain ⟨h1, h2⟩ := h.2 b e' hb
    have hl : b < H.size := h2.lt
    exact ⟨h1, h2.kept (oq b (by rw [← h.1]; exact hl))⟩
/-! locals by their places -/
def zat : List (Option Value) → Nat → Option Value
  | [], _ => none
  | x :: _, 0 => x
  | _ :: l, n + 1 => zat l n
def zpt : List (Option Value) → Nat → Option Value → List (Option Value)
  | [], _, _ => []
  | _ :: l, 0, v => v :: l
  | x :: l, n + 1, v => x :: zpt l n v
def zclr (lv : List (Option Value)) (i : Nat) : List (Option Value) := match i with
  | 0 => lv
  | k + 1 => match zat lv k with
    | some w => if w.category = 2 then zpt lv k none else lv
    | none => lv
def zset1 (lv : List (Option Value)) (i : Nat) (v : Value) : List (Option Value) := zpt (zclr lv i) i (some v)
def zset2 (lv : List (Option Value)) (i : Nat) (v : Value) : List (Option Value) := zpt (zpt (zclr lv i) i (some v)) (i + 1) none
def zal : Nat → List (Option Value) → List (Nat × Value)
  | _, [] => []
  | j, some v :: l => (j, v) :: zal (j + 1) l
  | j, none :: l => zal (j + 1) l
theorem zal_mem : ∀ (lv : List (Option Value)) (j i : Nat) (v : Value), zat lv i = some v → (j + i, v) ∈ zal j lv
  | [], _, _, _, h => by cases h
  | some w :: l, j, 0, v, h => by cases h; exact List.mem_cons_self
  | some w :: l, j, n + 1, v, h => by
    have := zal_mem l (j + 1) n v h
    rw [show j + 1 + n = j + (n + 1) by omega] at this
    exact List.mem_cons_of_mem _ this
  | none :: l, j, 0, v, h => by cases h
  | none :: l, j, n + 1, v, h => by
    have := zal_mem l (j + 1) n v h
    rw [show j + 1 + n = j + (n + 1) by omega] at this
    exact this
theorem zal_inv : ∀ (lv : List (Option Value)) (j : Nat) (q : Nat × Value), q ∈ zal j lv → ∃ i, q.1 = j + i ∧ zat lv i = some q.2
  | [], _, _, h => by cases h
  | some w :: l, j, q, h => by
    rcases List.mem_cons.mp h with rfl | h
    · exact ⟨0, rfl, rfl⟩
    · obtain ⟨i, h1, h2⟩ := zal_inv l (j + 1) q h
      exact ⟨i + 1, by omega, h2⟩
  | none :: l, j, q, h => by
    obtain ⟨i, h1, h2⟩ := zal_inv l (j + 1) q h
    exact ⟨i + 1, by omega, h2⟩
theorem zpt_at : ∀ (lv : List (Option Value)) (i : Nat) (x : Option Value) (j : Nat) (w : Value), zat (zpt lv i x) j = some w → (j = i ∧ x = some w) ∨ (j ≠ i ∧ zat lv j = some w)
  | [], _, _, _, _, h => by cases h
  | y :: l, 0, x, 0, w, h => Or.inl ⟨rfl, h⟩
  | y :: l, 0, x, j + 1, w, h => Or.inr ⟨by omega, h⟩
  | y :: l, i + 1, x, 0, w, h => Or.inr ⟨by omega, h⟩
  | y :: l, i + 1, x, j + 1, w, h => by
    rcases zpt_at l i x j w h with ⟨h1, h2⟩ | ⟨h1, h2⟩
    · exact Or.inl ⟨by omega, h2⟩
    · exact Or.inr ⟨by omega, h2⟩
theorem zclr_at (lv : List (Option Value)) (i j : Nat) (w : Value) (h : zat (zclr lv i) j = some w) : zat lv j = some w ∧ ¬ (j + 1 = i ∧ w.category = 2) := by
  unfold zclr at h
  cases i with
  | zero => exact ⟨h, by omega⟩
  | succ k =>
    dsimp only at h
    cases hk : zat lv k with
    | none =>
      rw [hk] at h
      refine ⟨h, fun q => ?_⟩
      have : j = k := by omega
      subst this
      rw [h] at hk
      cases hk
    | some u =>
      rw [hk] at h
      dsimp only at h
      by_cases hc : u.category = 2
      · rw [if_pos hc] at h
        rcases zpt_at lv k none j w h with ⟨-, h2⟩ | ⟨h1, h2⟩
        · cases h2
        · exact ⟨h2, by omega⟩
      · rw [if_neg hc] at h
        refine ⟨h, fun q => ?_⟩
        have : j = k := by omega
        subst this
        rw [h] at hk
        cases hk
        exact hc q.2
def zL (n : Nat) (lv : List (Option Value)) (ls : Array Slot) : Prop := ls.size = n ∧ lv_wf ls ∧ ∀ (i : Nat) (v : Value), zat lv i = some v → ls[i]? = some (.val v)
theorem zL.has {n : Nat} {lv : List (Option Value)} {ls : Array Slot} (h : zL n lv ls) : lv_has ls n (zal 0 lv) :=
  ⟨h.1, h.2.1, fun q hq => by
    obtain ⟨i, h1, h2⟩ := zal_inv lv 0 q hq
    rw [h1, Nat.zero_add]
    exact h.2.2 i q.2 h2⟩
theorem zL.set1 {n i : Nat} {v : Value} {lv : List (Option Value)} {ls : Array Slot} (h : lv_has ls n ((i, v) :: (zal 0 lv).filter (fun q => !(q.1 == i) && !(q.1 + 1 == i && q.2.category == 2)))) : zL n (zset1 lv i v) ls := by
  refine ⟨h.1, h.2.1, fun j w hj => ?_⟩
  rcases zpt_at _ _ _ _ _ hj with ⟨h1, h2⟩ | ⟨h1, h2⟩
  · cases h2
    subst h1
    exact h.2.2 (j, v) List.mem_cons_self
  · obtain ⟨g1, g2⟩ := zclr_at _ _ _ _ h2
    have hm := zal_mem lv 0 j w g1
    rw [Nat.zero_add] at hm
    refine h.2.2 (j, w) (List.mem_cons_of_mem _ (List.mem_filter.mpr ⟨hm, ?_⟩))
    simp only [Bool.and_eq_true, Bool.not_eq_true', beq_eq_false_iff_ne, ne_eq, Bool.and_eq_false_iff]
    refine ⟨h1, ?_⟩
    by_cases hji : j + 1 = i
    · exact Or.inr (fun hc => g2 ⟨hji, hc⟩)
    · exact Or.inl hji
theorem zL.set2 {n i : Nat} {v : Value} {lv : List (Option Value)} {ls : Array Slot} (h : lv_has ls n ((i, v) :: (zal 0 lv).filter (fun q => !(q.1 == i) && (!(q.1 == i + 1) && !(q.1 + 1 == i && q.2.category == 2))))) : zL n (zset2 lv i v) ls := by
  refine ⟨h.1, h.2.1, fun j w hj => ?_⟩
  rcases zpt_at _ _ _ _ _ hj with ⟨h1, h2⟩ | ⟨h0, hj⟩
  · cases h2
  rcases zpt_at _ _ _ _ _ hj with ⟨h1, h2⟩ | ⟨h1, h2⟩
  · cases h2
    subst h1
    exact h.2.2 (j, v) List.mem_cons_self
  · obtain ⟨g1, g2⟩ := zclr_at _ _ _ _ h2
    have hm := zal_mem lv 0 j w g1
    rw [Nat.zero_add] at hm
    refine h.2.2 (j, w) (List.mem_cons_of_mem _ (List.mem_filter.mpr ⟨hm, ?_⟩))
    simp only [Bool.and_eq_true, Bool.not_eq_true', beq_eq_false_iff_ne, ne_eq, Bool.and_eq_false_iff]
    refine ⟨h1, h0, ?_⟩
    by_cases hji : j + 1 = i
    · exact Or.inr (fun hc => g2 ⟨hji, hc⟩)
    · exact Or.inl hji
def zent : List Value → List (Option Value)
  | [] => []
  | v :: vs => if v.category = 2 then some v :: none :: zent vs else some v :: zent vs
theorem zent_mem (k : Nat) : ∀ (av : List Value) (j i : Nat) (v : Value), zat (zent av ++ List.replicate k none) i = some v → (j + i, v) ∈ lv_args j av
  | [], j, i, v, h => by
    exfalso
    have : ∀ (k i : Nat), zat (List.replicate k none) i = none := by
      intro k
      induction k with
      | zero => intro i; rfl
      | succ k ih => intro i; cases i with
        | zero => rfl
        | succ i => exact ih i
    simp only [zent, List.nil_append] at h
    rw [this] at h
    cases h
  | w :: vs, j, i, v, h => by
    unfold zent at h
    unfold lv_args
    by_cases hc : w.category = 2
    · rw [if_pos hc] at h
      match i, h with
      | 0, h => cases h; exact List.mem_cons_self
      | 1, h => cases h
      | i + 2, h =>
        have := zent_mem k vs (j + 2) i v h
        rw [if_pos hc, show j + (i + 2) = j + 2 + i by omega]
        exact List.mem_cons_of_mem _ this
    · rw [if_neg hc] at h
      match i, h with
      | 0, h => cases h; exact List.mem_cons_self
      | i + 1, h =>
        have := zent_mem k vs (j + 1) i v h
        rw [if_neg hc, show j + (i + 1) = j + 1 + i by omega]
        exact List.mem_cons_of_mem _ this
/-! the judgement -/
abbrev zM : Type := String × MethodName × ByteArray × Nat × Option FieldType
abbrev zcd (M : zM) : ByteArray := M.2.2.1
abbrev zml (M : zM) : Nat := M.2.2.2.1
abbrev zrt (M : zM) : Option FieldType := M.2.2.2.2
def zX (G : zG) (M : zM) (p : Program) (s : State) (m : MethodId) (args : Array Value) (meth : Method) (c : Code) : Prop :=
  p.tables.exec = Jvm.exec ∧ c.code = zcd M ∧ meth.sig.returnType = zrt M ∧ c.maxLocals = zml M ∧ s.vm.findClass M.1 = some m.cls ∧ (∀ w ∈ lw_gd, w.before args s = true) ∧ meth.locks = false ∧ meth.name = M.2.1.name ∧ zK G s s.heap
abbrev zFin : Type := State → Array Value → List Frame → State → Prop
def zW (G : zG) (M : zM) (R : Room) (F : zFin) (cn sn : Nat) (pc : Nat) (lv : List (Option Value)) (st : List Value) (ah : zH) (sz : Nat) : Prop :=
  ∀ (p : Program) (l : Launch) (e : Env) (s : State) (m : MethodId) (args : Array Value) (below : List Frame) (meth : Method) (c : Code) (H : Heap) (locs : List Loc) (ls : Array Slot),
    zX G M p s m args meth c → zA G sz ah H → va_S (zB G) s.heap H locs → zL (zml M) lv ls → W p l e R s m args below meth c H locs cn sn (F s args below) (F0 m pc ls st)
abbrev zPost : Type := Option Value → zH → Nat → Prop
def zQ (G : zG) (Q : zPost) : Array Value → State → Outcome → State → Prop := fun _ st oc t =>
  (∃ (r : Option Value) (ah : zH) (sz : Nat), oc = .returned r ∧ Q r ah sz ∧ zA G sz ah t.heap) ∧ va_F (zB G) st t
def zFm (G : zG) (Q : zPost) (mc ms : Nat) : zFin := fun s args below => MQ below (zQ G Q) args s mc ms (zB G)
abbrev zRm (d mc ms : Nat) : Room := { frames := d, cells := mc, slots := ms, locals := 40 * d }
def zPc (G : zG) (av : List Value) (ah : zH) (sz : Nat) : Array Value → State → Prop := fun v U => v = av.toArray ∧ zA G sz ah U.heap ∧ zK G U U.heap
/-- a method's contract -/
def zC (G : zG) (M : zM) (d mc ms : Nat) (av : List Value) (ah : zH) (sz : Nat) (Q : zPost) : Prop :=
  ∀ l : Launch, Met l M.2.1 (Cond.code M.2.1 (zcd M) (zml M) (zrt M) :: lw_gd) (zRm d mc ms) (zPc G av ah sz) (zQ G Q) mc ms (zB G)
/-- its answer and its heap given outright; nothing is made -/
abbrev zQe (r : Option Value) (ah : zH) (sz : Nat) : zPost := fun r' ah' sz' => r' = r ∧ ah' = ah ∧ sz' = sz
abbrev zCe (G : zG) (M : zM) (d : Nat) (av : List Value) (ah : zH) (sz : Nat) (r : Option Value) (ah' : zH) : Prop := zC G M d 0 0 av ah sz (zQe r ah' sz)
theorem z_meth {G : zG} {M : zM} {d mc ms : Nat} {av : List Value} {ah : zH} {sz : Nat} {Q : zPost} (k : Nat) {lv : List (Option Value)} (hy : plainName M.2.1.cls = true ∧ M.1 = M.2.1.cls ∧ (lg_sl av).length ≤ zml M) (hlv : zent av ++ List.replicate k none = lv)
    (kk : zW G M (zRm d mc ms) (zFm G Q mc ms) 0 0 0 lv [] ah sz) : zC G M d mc ms av ah sz Q := by
  intro l
  refine Met.ofW (cc := zcd M) (maxL := zml M) (ret := zrt M) hy.1 rfl ?_
  intro p e s m args below meth c s₁ B hml hv
  obtain ⟨rfl, hA, hK⟩ := hv
  have hts := atoms_spec (ws := (Cond.code M.2.1 (zcd M) (zml M) (zrt M) :: lw_gd)) B.pre
  have hown : s.vm.findClass M.1 = some m.cls := by rw [hy.2.1]; exact findClass_of_methodNamed B.named
  rw [lg_entry_eq]
  have hl := lv_entry av (n := zml M) hy.2.2
  refine kk p l e s m av.toArray below meth c s.heap [] _ ⟨B.exec, B.bytes, B.returns, hml, hown, fun w h => hts w (List.mem_cons_of_mem _ h), B.notSynchronized, (name_of_methodNamed B.named B.method).1, hK⟩ hA va_S.rf ⟨hl.1, hl.2.1, fun i v hi => ?_⟩
  rw [← hlv] at hi
  have := zent_mem k av 0 i v hi
  rw [Nat.zero_add] at this
  exact hl.2.2 (i, v) this
section ZR
variable {G : zG} {M : zM} {R : Room} {F : zFin} {cn sn pc : Nat} {lv lv' : List (Option Value)} {st : List Value} {ah : zH} {sz : Nat}
theorem zXn {p : Program} {s : State} {m : MethodId} {args : Array Value} {meth : Method} {c : Code} (X : zX G M p s m args meth c) {w : Cond} (hw : w ∈ lw_tbl) (hn : zns w = true) : va_Nw w s := X.2.2.2.2.2.2.2.2.2.2.2.2.2.2.2.2.1 w hw hn
theorem z_eq {pc' : Nat} {lv' : List (Option Value)} {st' : List Value} {ah' : zH} (h1 : pc = pc') (h2 : lv = lv') (h3 : st = st') (h4 : ah = ah') (k : zW G M R F cn sn pc' lv' st' ah' sz) : zW G M R F cn sn pc lv st ah sz := by
  subst h1; subst h2; subst h3; subst h4; exact k
theorem z_heap {ah' : zH} (h4 : ah = ah') (k : zW G M R F cn sn pc lv st ah' sz) : zW G M R F cn sn pc lv st ah sz := by
  subst h4; exact k
/-- fewer locals -/
def zsub : List (Option Value) → List (Option Value) → Prop
  | _, [] => True
  | [], none :: l' => zsub [] l'
  | [], some _ :: _ => False
  | _ :: l, none :: l' => zsub l l'
  | x :: l, some v :: l' => x = some v ∧ zsub l l'
theorem zsub_at : ∀ (l l' : List (Option Value)), zsub l l' → ∀ (i : Nat) (v : Value), zat l' i = some v → zat l i = some v
  | _, [], _, i, v, h => by cases h
  | [], none :: l', hs, 0, v, h => by cases h
  | [], none :: l', hs, i + 1, v, h => by
    have := zsub_at [] l' (by simpa [zsub] using hs) i v h
    cases this
  | [], some _ :: _, hs, _, _, _ => by simp [zsub] at hs
  | y :: l, none :: l', hs, 0, v, h => by cases h
  | y :: l, none :: l', hs, i + 1, v, h => zsub_at l l' (by simpa [zsub] using hs) i v h
  | y :: l, some w :: l', hs, 0, v, h => by
    have h1 : y = some w ∧ zsub l l' := by simpa [zsub] using hs
    rw [h1.1]; exact h
  | y :: l, some w :: l', hs, i + 1, v, h => by
    have h1 : y = some w ∧ zsub l l' := by simpa [zsub] using hs
    exact zsub_at l l' h1.2 i v h
theorem z_loc (h : zsub lv lv') (k : zW G M R F cn sn pc lv' st ah sz) : zW G M R F cn sn pc lv st ah sz :=
  fun p l e s m args below meth c H locs ls X hA hS hL => k p l e s m args below meth c H locs ls X hA hS ⟨hL.1, hL.2.1, fun i v hi => hL.2.2 i v (zsub_at _ _ h i v hi)⟩
theorem z_iconst {n : Int} (v : Int32) (hd : decode (zcd M) pc = .ok (.iconst n, 1)) (hv : Int32.ofInt n = v) (k : zW G M R F cn sn (pc + 1) lv (.int v :: st) ah sz) : zW G M R F cn sn pc lv st ah sz :=
  fun p l e s m args below meth c H locs ls X hA hS hL => lv_iconst X.1 X.2.1 hd hv (k p l e s m args below meth c H locs ls X hA hS hL)
theorem z_bipush {n : Int} (v : Int32) (hd : decode (zcd M) pc = .ok (.bipush n, 2)) (hv : (Int8.ofInt n).toInt32 = v) (k : zW G M R F cn sn (pc + 2) lv (.int v :: st) ah sz) : zW G M R F cn sn pc lv st ah sz :=
  fun p l e s m args below meth c H locs ls X hA hS hL => lv_bipush X.1 X.2.1 hd hv (k p l e s m args below meth c H locs ls X hA hS hL)
theorem z_sipush {n : Int} (v : Int32) (hd : decode (zcd M) pc = .ok (.sipush n, 3)) (hv : (Int16.ofInt n).toInt32 = v) (k : zW G M R F cn sn (pc + 3) lv (.int v :: st) ah sz) : zW G M R F cn sn pc lv st ah sz :=
  fun p l e s m args below meth c H locs ls X hA hS hL => lv_sipush X.1 X.2.1 hd hv (k p l e s m args below meth c H locs ls X hA hS hL)
theorem z_lconst {n : Fin 2} (v : Int64) (hd : decode (zcd M) pc = .ok (.lconst n, 1)) (hv : Int64.ofNat (n : Nat) = v) (k : zW G M R F cn sn (pc + 1) lv (.long v :: st) ah sz) : zW G M R F cn sn pc lv st ah sz :=
  fun p l e s m args below meth c H locs ls X hA hS hL => lv_lconst X.1 X.2.1 hd hv (k p l e s m args below meth c H locs ls X hA hS hL)
theorem z_ldc {own : String} {index : Nat} (v : Int32) (hc : Cond.constant M.1 index v ∈ lw_gd) (hd : decode (zcd M) pc = .ok (.ldc index, 2)) (k : zW G M R F cn sn (pc + 2) lv (.int v :: st) ah sz) : zW G M R F cn sn pc lv st ah sz :=
  fun p l e s m args below meth c H locs ls X hA hS hL => lv_ldc X.1 X.2.1 X.2.2.2.2.1 (X.2.2.2.2.2.1 _ hc) hd (k p l e s m args below meth c H locs ls X hA hS hL)
theorem z_ldc2 {index : Nat} (v : Int64) (hc : Cond.constantLong M.1 index v ∈ lw_gd) (hd : decode (zcd M) pc = .ok (.ldc2_w index, 3)) (k : zW G M R F cn sn (pc + 3) lv (.long v :: st) ah sz) : zW G M R F cn sn pc lv st ah sz :=
  fun p l e s m args below meth c H locs ls X hA hS hL => lv_ldc2 X.1 X.2.1 X.2.2.2.2.1 (X.2.2.2.2.2.1 _ hc) hd (k p l e s m args below meth c H locs ls X hA hS hL)
theorem z_ldcS (i : Nat) (hi : i < 7) {index : Nat} (hM : M.1 = "RunColumns$Reader") (hx : (zlit.getD i (0, "")).1 = index) (hd : decode (zcd M) pc = .ok (.ldc index, 2)) (k : zW G M R F cn sn (pc + 2) lv (.ref (zsK G i) :: st) ah sz) : zW G M R F cn sn pc lv st ah sz :=
  fun p l e s m args below meth c H locs ls X hA hS hL => va_ldcS X.1 X.2.1 X.2.2.2.2.1 (hM ▸ hx ▸ X.2.2.2.2.2.2.2.2.2.2.2.1 i hi) hd (k p l e s m args below meth c H locs ls X hA hS hL)
theorem z_iload_n {n : Fin 4} {x : Int32} (hd : decode (zcd M) pc = .ok (.iload_n n, 1)) (hl : zat lv n = some (.int x)) (k : zW G M R F cn sn (pc + 1) lv (.int x :: st) ah sz) : zW G M R F cn sn pc lv st ah sz :=
  fun p l e s m args below meth c H locs ls X hA hS hL => lv_iload_n X.1 X.2.1 hd rfl (hL.2.2 _ _ hl) (k p l e s m args below meth c H locs ls X hA hS hL)
theorem z_iload {n : Nat} {x : Int32} (hd : decode (zcd M) pc = .ok (.iload n, 2)) (hl : zat lv n = some (.int x)) (k : zW G M R F cn sn (pc + 2) lv (.int x :: st) ah sz) : zW G M R F cn sn pc lv st ah sz :=
  fun p l e s m args below meth c H locs ls X hA hS hL => lv_iload X.1 X.2.1 hd (hL.2.2 _ _ hl) (k p l e s m args below meth c H locs ls X hA hS hL)
theorem z_istore_n {n : Fin 4} {x : Int32} (hd : decode (zcd M) pc = .ok (.istore_n n, 1)) (hn : (n : Nat) < zml M) (hl : zset1 lv n (.int x) = lv') (k : zW G M R F cn sn (pc + 1) lv' st ah sz) : zW G M R F cn sn pc lv (.int x :: st) ah sz :=
  fun p l e s m args below meth c H locs ls X hA hS hL => lv_istore_n X.1 X.2.1 hd rfl hL.has hn rfl (fun ls h => k p l e s m args below meth c H locs ls X hA hS (hl ▸ zL.set1 h))
theorem z_istore {n : Nat} {x : Int32} (hd : decode (zcd M) pc = .ok (.istore n, 2)) (hn : n < zml M) (hl : zset1 lv n (.int x) = lv') (k : zW G M R F cn sn (pc + 2) lv' st ah sz) : zW G M R F cn sn pc lv (.int x :: st) ah sz :=
  fun p l e s m args below meth c H locs ls X hA hS hL => lv_istore X.1 X.2.1 hd hL.has hn rfl (fun ls h => k p l e s m args below meth c H locs ls X hA hS (hl ▸ zL.set1 h))
theorem z_lload_n {n : Fin 4} {x : Int64} (hd : decode (zcd M) pc = .ok (.lload_n n, 1)) (hl : zat lv n = some (.long x)) (k : zW G M R F cn sn (pc + 1) lv (.long x :: st) ah sz) : zW G M R F cn sn pc lv st ah sz :=
  fun p l e s m args below meth c H locs ls X hA hS hL => lv_lload_n X.1 X.2.1 hd rfl (hL.2.2 _ _ hl) (k p l e s m args below meth c H locs ls X hA hS hL)
theorem z_lload {n : Nat} {x : Int64} (hd : decode (zcd M) pc = .ok (.lload n, 2)) (hl : zat lv n = some (.long x)) (k : zW G M R F cn sn (pc + 2) lv (.long x :: st) ah sz) : zW G M R F cn sn pc lv st ah sz :=
  fun p l e s m args below meth c H locs ls X hA hS hL => lv_lload X.1 X.2.1 hd (hL.2.2 _ _ hl) (k p l e s m args below meth c H locs ls X hA hS hL)
theorem z_lstore_n {n : Fin 4} {x : Int64} (hd : decode (zcd M) pc = .ok (.lstore_n n, 1)) (hn : (n : Nat) + 1 < zml M) (hl : zset2 lv n (.long x) = lv') (k : zW G M R F cn sn (pc + 1) lv' st ah sz) : zW G M R F cn sn pc lv (.long x :: st) ah sz :=
  fun p l e s m args below meth c H locs ls X hA hS hL => lv_lstore_n X.1 X.2.1 hd rfl hL.has hn rfl (fun ls h => k p l e s m args below meth c H locs ls X hA hS (hl ▸ zL.set2 h))
theorem z_lstore {n : Nat} {x : Int64} (hd : decode (zcd M) pc = .ok (.lstore n, 2)) (hn : n + 1 < zml M) (hl : zset2 lv n (.long x) = lv') (k : zW G M R F cn sn (pc + 2) lv' st ah sz) : zW G M R F cn sn pc lv (.long x :: st) ah sz :=
  fun p l e s m args below meth c H locs ls X hA hS hL => lv_lstore X.1 X.2.1 hd hL.has hn rfl (fun ls h => k p l e s m args below meth c H locs ls X hA hS (hl ▸ zL.set2 h))
theorem z_aload_n {n : Fin 4} {x : Nat} (hd : decode (zcd M) pc = .ok (.aload_n n, 1)) (hl : zat lv n = some (.ref x)) (k : zW G M R F cn sn (pc + 1) lv (.ref x :: st) ah sz) : zW G M R F cn sn pc lv st ah sz :=
  fun p l e s m args below meth c H locs ls X hA hS hL => lv_aload_n X.1 X.2.1 hd rfl (hL.2.2 _ _ hl) (k p l e s m args below meth c H locs ls X hA hS hL)
theorem z_aload {n : Nat} {x : Nat} (hd : decode (zcd M) pc = .ok (.aload n, 2)) (hl : zat lv n = some (.ref x)) (k : zW G M R F cn sn (pc + 2) lv (.ref x :: st) ah sz) : zW G M R F cn sn pc lv st ah sz :=
  fun p l e s m args below meth c H locs ls X hA hS hL => lv_aload X.1 X.2.1 hd (hL.2.2 _ _ hl) (k p l e s m args below meth c H locs ls X hA hS hL)
theorem z_astore_n {n : Fin 4} {x : Nat} (hd : decode (zcd M) pc = .ok (.astore_n n, 1)) (hn : (n : Nat) < zml M) (hl : zset1 lv n (.ref x) = lv') (k : zW G M R F cn sn (pc + 1) lv' st ah sz) : zW G M R F cn sn pc lv (.ref x :: st) ah sz :=
  fun p l e s m args below meth c H locs ls X hA hS hL => lv_astore_n X.1 X.2.1 hd rfl hL.has hn rfl (fun ls h => k p l e s m args below meth c H locs ls X hA hS (hl ▸ zL.set1 h))
theorem z_astore {n : Nat} {x : Nat} (hd : decode (zcd M) pc = .ok (.astore n, 2)) (hn : n < zml M) (hl : zset1 lv n (.ref x) = lv') (k : zW G M R F cn sn (pc + 2) lv' st ah sz) : zW G M R F cn sn pc lv (.ref x :: st) ah sz :=
  fun p l e s m args below meth c H locs ls X hA hS hL => lv_astore X.1 X.2.1 hd hL.has hn rfl (fun ls h => k p l e s m args below meth c H locs ls X hA hS (hl ▸ zL.set1 h))
theorem z_iinc {i : Nat} {n : Int} {x : Int32} (d : Int32) (hd : decode (zcd M) pc = .ok (.iinc i n, 3)) (hv : Int32.ofInt n = d) (hn : i < zml M) (hx : zat lv i = some (.int x)) (hl : zset1 lv i (.int (x + d)) = lv') (k : zW G M R F cn sn (pc + 3) lv' st ah sz) : zW G M R F cn sn pc lv st ah sz := by
  intro p l e s m args below meth c H locs ls X hA hS hL
  have hm := zal_mem lv 0 i _ hx
  rw [Nat.zero_add] at hm
  obtain ⟨j, hj⟩ := List.getElem?_of_mem hm
  exact lv_iinc (v := x + d) X.1 X.2.1 hd hL.has hj (by rw [hv]) hn rfl (fun ls h => k p l e s m args below meth c H locs ls X hA hS (hl ▸ zL.set1 h))
theorem z_iadd {x y : Int32} (hd : decode (zcd M) pc = .ok (.iadd, 1)) (k : zW G M R F cn sn (pc + 1) lv (.int (x + y) :: st) ah sz) : zW G M R F cn sn pc lv (.int y :: .int x :: st) ah sz :=
  fun p l e s m args below meth c H locs ls X hA hS hL => lv_iadd X.1 X.2.1 hd (k p l e s m args below meth c H locs ls X hA hS hL)
theorem z_isub {x y : Int32} (hd : decode (zcd M) pc = .ok (.isub, 1)) (k : zW G M R F cn sn (pc + 1) lv (.int (x - y) :: st) ah sz) : zW G M R F cn sn pc lv (.int y :: .int x :: st) ah sz :=
  fun p l e s m args below meth c H locs ls X hA hS hL => lv_isub X.1 X.2.1 hd (k p l e s m args below meth c H locs ls X hA hS hL)
theorem z_imul {x y : Int32} (hd : decode (zcd M) pc = .ok (.imul, 1)) (k : zW G M R F cn sn (pc + 1) lv (.int (x * y) :: st) ah sz) : zW G M R F cn sn pc lv (.int y :: .int x :: st) ah sz :=
  fun p l e s m args below meth c H locs ls X hA hS hL => lv_imul X.1 X.2.1 hd (k p l e s m args below meth c H locs ls X hA hS hL)
theorem z_iand {x y : Int32} (hd : decode (zcd M) pc = .ok (.iand, 1)) (k : zW G M R F cn sn (pc + 1) lv (.int (x &&& y) :: st) ah sz) : zW G M R F cn sn pc lv (.int y :: .int x :: st) ah sz :=
  fun p l e s m args below meth c H locs ls X hA hS hL => lv_iand X.1 X.2.1 hd (k p l e s m args below meth c H locs ls X hA hS hL)
theorem z_ior {x y : Int32} (hd : decode (zcd M) pc = .ok (.ior, 1)) (k : zW G M R F cn sn (pc + 1) lv (.int (x ||| y) :: st) ah sz) : zW G M R F cn sn pc lv (.int y :: .int x :: st) ah sz :=
  fun p l e s m args below meth c H locs ls X hA hS hL => lv_ior X.1 X.2.1 hd (k p l e s m args below meth c H locs ls X hA hS hL)
theorem z_ladd {x y : Int64} (hd : decode (zcd M) pc = .ok (.ladd, 1)) (k : zW G M R F cn sn (pc + 1) lv (.long (x + y) :: st) ah sz) : zW G M R F cn sn pc lv (.long y :: .long x :: st) ah sz :=
  fun p l e s m args below meth c H locs ls X hA hS hL => lv_ladd X.1 X.2.1 hd (k p l e s m args below meth c H locs ls X hA hS hL)
theorem z_lsub {x y : Int64} (hd : decode (zcd M) pc = .ok (.lsub, 1)) (k : zW G M R F cn sn (pc + 1) lv (.long (x - y) :: st) ah sz) : zW G M R F cn sn pc lv (.long y :: .long x :: st) ah sz :=
  fun p l e s m args below meth c H locs ls X hA hS hL => lv_lsub X.1 X.2.1 hd (k p l e s m args below meth c H locs ls X hA hS hL)
theorem z_land {x y : Int64} (hd : decode (zcd M) pc = .ok (.land, 1)) (k : zW G M R F cn sn (pc + 1) lv (.long (x &&& y) :: st) ah sz) : zW G M R F cn sn pc lv (.long y :: .long x :: st) ah sz :=
  fun p l e s m args below meth c H locs ls X hA hS hL => lv_land X.1 X.2.1 hd (k p l e s m args below meth c H locs ls X hA hS hL)
theorem z_lor {x y : Int64} (hd : decode (zcd M) pc = .ok (.lor, 1)) (k : zW G M R F cn sn (pc + 1) lv (.long (x ||| y) :: st) ah sz) : zW G M R F cn sn pc lv (.long y :: .long x :: st) ah sz :=
  fun p l e s m args below meth c H locs ls X hA hS hL => lv_lor X.1 X.2.1 hd (k p l e s m args below meth c H locs ls X hA hS hL)
theorem z_lxor {x y : Int64} (hd : decode (zcd M) pc = .ok (.lxor, 1)) (k : zW G M R F cn sn (pc + 1) lv (.long (x ^^^ y) :: st) ah sz) : zW G M R F cn sn pc lv (.long y :: .long x :: st) ah sz :=
  fun p l e s m args below meth c H locs ls X hA hS hL => lv_lxor X.1 X.2.1 hd (k p l e s m args below meth c H locs ls X hA hS hL)
theorem z_ishl {x y : Int32} (hd : decode (zcd M) pc = .ok (.ishl, 1)) (k : zW G M R F cn sn (pc + 1) lv (.int (x <<< (y &&& 31)) :: st) ah sz) : zW G M R F cn sn pc lv (.int y :: .int x :: st) ah sz :=
  fun p l e s m args below meth c H locs ls X hA hS hL => lv_ishl X.1 X.2.1 hd (k p l e s m args below meth c H locs ls X hA hS hL)
theorem z_ishr {x y : Int32} (hd : decode (zcd M) pc = .ok (.ishr, 1)) (k : zW G M R F cn sn (pc + 1) lv (.int (x >>> (y &&& 31)) :: st) ah sz) : zW G M R F cn sn pc lv (.int y :: .int x :: st) ah sz :=
  fun p l e s m args below meth c H locs ls X hA hS hL => lv_ishr X.1 X.2.1 hd (k p l e s m args below meth c H locs ls X hA hS hL)
theorem z_idiv {x y : Int32} (hd : decode (zcd M) pc = .ok (.idiv, 1)) (hne : ¬ y = 0) (k : zW G M R F cn sn (pc + 1) lv (.int (x / y) :: st) ah sz) : zW G M R F cn sn pc lv (.int y :: .int x :: st) ah sz :=
  fun p l e s m args below meth c H locs ls X hA hS hL => lv_idiv X.1 X.2.1 hd hne (k p l e s m args below meth c H locs ls X hA hS hL)
theorem z_irem {x y : Int32} (hd : decode (zcd M) pc = .ok (.irem, 1)) (hne : ¬ y = 0) (k : zW G M R F cn sn (pc + 1) lv (.int (x - x / y * y) :: st) ah sz) : zW G M R F cn sn pc lv (.int y :: .int x :: st) ah sz :=
  fun p l e s m args below meth c H locs ls X hA hS hL => lv_irem X.1 X.2.1 hd hne (k p l e s m args below meth c H locs ls X hA hS hL)
theorem z_lushr {x : Int64} {y : Int32} (hd : decode (zcd M) pc = .ok (.lushr, 1)) (k : zW G M R F cn sn (pc + 1) lv (.long (x.toUInt64 >>> (y.toInt64.toUInt64 &&& Int64.toUInt64 63)).toInt64 :: st) ah sz) : zW G M R F cn sn pc lv (.int y :: .long x :: st) ah sz :=
  fun p l e s m args below meth c H locs ls X hA hS hL => lv_lushr X.1 X.2.1 hd rfl (k p l e s m args below meth c H locs ls X hA hS hL)
theorem z_lshl {x : Int64} {y : Int32} (hd : decode (zcd M) pc = .ok (.lshl, 1)) (k : zW G M R F cn sn (pc + 1) lv (.long (x <<< (y.toInt64 &&& 63)) :: st) ah sz) : zW G M R F cn sn pc lv (.int y :: .long x :: st) ah sz :=
  fun p l e s m args below meth c H locs ls X hA hS hL => lv_lshl X.1 X.2.1 hd rfl (k p l e s m args below meth c H locs ls X hA hS hL)
theorem z_i2l {x : Int32} (hd : decode (zcd M) pc = .ok (.i2l, 1)) (k : zW G M R F cn sn (pc + 1) lv (.long (x.toInt64) :: st) ah sz) : zW G M R F cn sn pc lv (.int x :: st) ah sz :=
  fun p l e s m args below meth c H locs ls X hA hS hL => lv_i2l X.1 X.2.1 hd rfl (k p l e s m args below meth c H locs ls X hA hS hL)
theorem z_l2i {x : Int64} (hd : decode (zcd M) pc = .ok (.l2i, 1)) (k : zW G M R F cn sn (pc + 1) lv (.int (x.toInt32) :: st) ah sz) : zW G M R F cn sn pc lv (.long x :: st) ah sz :=
  fun p l e s m args below meth c H locs ls X hA hS hL => lv_l2i X.1 X.2.1 hd rfl (k p l e s m args below meth c H locs ls X hA hS hL)
theorem z_i2b {x : Int32} (hd : decode (zcd M) pc = .ok (.i2b, 1)) (k : zW G M R F cn sn (pc + 1) lv (.int (x.toInt8.toInt32) :: st) ah sz) : zW G M R F cn sn pc lv (.int x :: st) ah sz :=
  fun p l e s m args below meth c H locs ls X hA hS hL => lv_i2b X.1 X.2.1 hd rfl (k p l e s m args below meth c H locs ls X hA hS hL)
theorem z_i2s {x : Int32} (hd : decode (zcd M) pc = .ok (.i2s, 1)) (k : zW G M R F cn sn (pc + 1) lv (.int (x.toInt16.toInt32) :: st) ah sz) : zW G M R F cn sn pc lv (.int x :: st) ah sz :=
  fun p l e s m args below meth c H locs ls X hA hS hL => lv_i2s X.1 X.2.1 hd rfl (k p l e s m args below meth c H locs ls X hA hS hL)
theorem z_i2c {x : Int32} (hd : decode (zcd M) pc = .ok (.i2c, 1)) (k : zW G M R F cn sn (pc + 1) lv (.int (x.toUInt32 % 65536).toInt32 :: st) ah sz) : zW G M R F cn sn pc lv (.int x :: st) ah sz :=
  fun p l e s m args below meth c H locs ls X hA hS hL => lv_i2c X.1 X.2.1 hd rfl (k p l e s m args below meth c H locs ls X hA hS hL)
theorem z_lcmp {x y : Int64} (hd : decode (zcd M) pc = .ok (.lcmp, 1)) (k : zW G M R F cn sn (pc + 1) lv (.int (lg_cmp x y) :: st) ah sz) : zW G M R F cn sn pc lv (.long y :: .long x :: st) ah sz :=
  fun p l e s m args below meth c H locs ls X hA hS hL => W.lcmp X.1 X.2.1 hd (k p l e s m args below meth c H locs ls X hA hS hL)
theorem z_dup {v : Value} (hd : decode (zcd M) pc = .ok (.dup, 1)) (h1 : v.category = 1) (k : zW G M R F cn sn (pc + 1) lv (v :: v :: st) ah sz) : zW G M R F cn sn pc lv (v :: st) ah sz :=
  fun p l e s m args below meth c H locs ls X hA hS hL => lv_dup X.1 X.2.1 hd h1 (k p l e s m args below meth c H locs ls X hA hS hL)
theorem z_pop {v : Value} (hd : decode (zcd M) pc = .ok (.pop, 1)) (h1 : v.category = 1) (k : zW G M R F cn sn (pc + 1) lv st ah sz) : zW G M R F cn sn pc lv (v :: st) ah sz :=
  fun p l e s m args below meth c H locs ls X hA hS hL => lv_pop X.1 X.2.1 hd h1 (k p l e s m args below meth c H locs ls X hA hS hL)
theorem z_dup_x1 {v w : Value} (hd : decode (zcd M) pc = .ok (.dup_x1, 1)) (h1 : v.category = 1) (h2 : w.category = 1) (k : zW G M R F cn sn (pc + 1) lv (v :: w :: v :: st) ah sz) : zW G M R F cn sn pc lv (v :: w :: st) ah sz :=
  fun p l e s m args below meth c H locs ls X hA hS hL => lv_dup_x1 X.1 X.2.1 hd h1 h2 (k p l e s m args below meth c H locs ls X hA hS hL)
theorem z_dup_x2 {v w u : Value} (hd : decode (zcd M) pc = .ok (.dup_x2, 1)) (h1 : v.category = 1) (h2 : w.category = 1) (h3 : u.category = 1) (k : zW G M R F cn sn (pc + 1) lv (v :: w :: u :: v :: st) ah sz) : zW G M R F cn sn pc lv (v :: w :: u :: st) ah sz :=
  fun p l e s m args below meth c H locs ls X hA hS hL => lv_dup_x2 X.1 X.2.1 hd h1 h2 h3 (k p l e s m args below meth c H locs ls X hA hS hL)
theorem z_dup2 {v w : Value} (hd : decode (zcd M) pc = .ok (.dup2, 1)) (h1 : v.category = 1) (h2 : w.category = 1) (k : zW G M R F cn sn (pc + 1) lv (v :: w :: v :: w :: st) ah sz) : zW G M R F cn sn pc lv (v :: w :: st) ah sz :=
  fun p l e s m args below meth c H locs ls X hA hS hL => lv_dup2_11 X.1 X.2.1 hd h1 h2 (k p l e s m args below meth c H locs ls X hA hS hL)
theorem z_goto {off : Int} (tgt : Nat) (hd : decode (zcd M) pc = .ok (.goto off, 3)) (ht : (pc : Int) + off = (tgt : Int)) (k : zW G M R F cn sn tgt lv st ah sz) : zW G M R F cn sn pc lv st ah sz :=
  fun p l e s m args below meth c H locs ls X hA hS hL => lv_goto X.1 X.2.1 hd ht (k p l e s m args below meth c H locs ls X hA hS hL)
theorem z_widen {cn' sn' : Nat} (h1 : cn ≤ cn') (h2 : sn ≤ sn') (k : zW G M R F cn' sn' pc lv st ah sz) : zW G M R F cn sn pc lv st ah sz :=
  fun p l e s m args below meth c H locs ls X hA hS hL => W.widen h1 h2 (k p l e s m args below meth c H locs ls X hA hS hL)
theorem z_if_eq {x : Int32} {off : Int} (tgt : Nat) (hd : decode (zcd M) pc = .ok (.ifCond .eq off, 3)) (ht : (pc : Int) + off = (tgt : Int)) (kt : x = 0 → zW G M R F cn sn tgt lv st ah sz) (kf : ¬ x = 0 → zW G M R F cn sn (pc + 3) lv st ah sz) : zW G M R F cn sn pc lv (.int x :: st) ah sz :=
  fun p l e s m args below meth c H locs ls X hA hS hL => lv_if_eq X.1 X.2.1 hd ht (fun q => kt q p l e s m args below meth c H locs ls X hA hS hL) (fun q => kf q p l e s m args below meth c H locs ls X hA hS hL)
theorem z_if_ne {x : Int32} {off : Int} (tgt : Nat) (hd : decode (zcd M) pc = .ok (.ifCond .ne off, 3)) (ht : (pc : Int) + off = (tgt : Int)) (kt : ¬ x = 0 → zW G M R F cn sn tgt lv st ah sz) (kf : x = 0 → zW G M R F cn sn (pc + 3) lv st ah sz) : zW G M R F cn sn pc lv (.int x :: st) ah sz :=
  fun p l e s m args below meth c H locs ls X hA hS hL => lv_if_ne X.1 X.2.1 hd ht (fun q => kt q p l e s m args below meth c H locs ls X hA hS hL) (fun q => kf q p l e s m args below meth c H locs ls X hA hS hL)
theorem z_if_lt {x : Int32} {off : Int} (tgt : Nat) (hd : decode (zcd M) pc = .ok (.ifCond .lt off, 3)) (ht : (pc : Int) + off = (tgt : Int)) (kt : x < 0 → zW G M R F cn sn tgt lv st ah sz) (kf : ¬ x < 0 → zW G M R F cn sn (pc + 3) lv st ah sz) : zW G M R F cn sn pc lv (.int x :: st) ah sz :=
  fun p l e s m args below meth c H locs ls X hA hS hL => lv_if_lt X.1 X.2.1 hd ht (fun q => kt q p l e s m args below meth c H locs ls X hA hS hL) (fun q => kf q p l e s m args below meth c H locs ls X hA hS hL)
theorem z_if_ge {x : Int32} {off : Int} (tgt : Nat) (hd : decode (zcd M) pc = .ok (.ifCond .ge off, 3)) (ht : (pc : Int) + off = (tgt : Int)) (kt : 0 ≤ x → zW G M R F cn sn tgt lv st ah sz) (kf : ¬ 0 ≤ x → zW G M R F cn sn (pc + 3) lv st ah sz) : zW G M R F cn sn pc lv (.int x :: st) ah sz :=
  fun p l e s m args below meth c H locs ls X hA hS hL => lv_if_ge X.1 X.2.1 hd ht (fun q => kt q p l e s m args below meth c H locs ls X hA hS hL) (fun q => kf q p l e s m args below meth c H locs ls X hA hS hL)
theorem z_if_gt {x : Int32} {off : Int} (tgt : Nat) (hd : decode (zcd M) pc = .ok (.ifCond .gt off, 3)) (ht : (pc : Int) + off = (tgt : Int)) (kt : 0 < x → zW G M R F cn sn tgt lv st ah sz) (kf : ¬ 0 < x → zW G M R F cn sn (pc + 3) lv st ah sz) : zW G M R F cn sn pc lv (.int x :: st) ah sz :=
  fun p l e s m args below meth c H locs ls X hA hS hL => lv_if_gt X.1 X.2.1 hd ht (fun q => kt q p l e s m args below meth c H locs ls X hA hS hL) (fun q => kf q p l e s m args below meth c H locs ls X hA hS hL)
theorem z_if_le {x : Int32} {off : Int} (tgt : Nat) (hd : decode (zcd M) pc = .ok (.ifCond .le off, 3)) (ht : (pc : Int) + off = (tgt : Int)) (kt : x ≤ 0 → zW G M R F cn sn tgt lv st ah sz) (kf : ¬ x ≤ 0 → zW G M R F cn sn (pc + 3) lv st ah sz) : zW G M R F cn sn pc lv (.int x :: st) ah sz :=
  fun p l e s m args below meth c H locs ls X hA hS hL => lv_if_le X.1 X.2.1 hd ht (fun q => kt q p l e s m args below meth c H locs ls X hA hS hL) (fun q => kf q p l e s m args below meth c H locs ls X hA hS hL)
theorem z_icmp_eq {x y : Int32} {off : Int} (tgt : Nat) (hd : decode (zcd M) pc = .ok (.if_icmp .eq off, 3)) (ht : (pc : Int) + off = (tgt : Int)) (kt : x = y → zW G M R F cn sn tgt lv st ah sz) (kf : ¬ x = y → zW G M R F cn sn (pc + 3) lv st ah sz) : zW G M R F cn sn pc lv (.int y :: .int x :: st) ah sz :=
  fun p l e s m args below meth c H locs ls X hA hS hL => lv_icmp_eq X.1 X.2.1 hd ht (fun q => kt q p l e s m args below meth c H locs ls X hA hS hL) (fun q => kf q p l e s m args below meth c H locs ls X hA hS hL)
theorem z_icmp_ne {x y : Int32} {off : Int} (tgt : Nat) (hd : decode (zcd M) pc = .ok (.if_icmp .ne off, 3)) (ht : (pc : Int) + off = (tgt : Int)) (kt : ¬ x = y → zW G M R F cn sn tgt lv st ah sz) (kf : x = y → zW G M R F cn sn (pc + 3) lv st ah sz) : zW G M R F cn sn pc lv (.int y :: .int x :: st) ah sz :=
  fun p l e s m args below meth c H locs ls X hA hS hL => lv_icmp_ne X.1 X.2.1 hd ht (fun q => kt q p l e s m args below meth c H locs ls X hA hS hL) (fun q => kf q p l e s m args below meth c H locs ls X hA hS hL)
theorem z_icmp_lt {x y : Int32} {off : Int} (tgt : Nat) (hd : decode (zcd M) pc = .ok (.if_icmp .lt off, 3)) (ht : (pc : Int) + off = (tgt : Int)) (kt : x < y → zW G M R F cn sn tgt lv st ah sz) (kf : ¬ x < y → zW G M R F cn sn (pc + 3) lv st ah sz) : zW G M R F cn sn pc lv (.int y :: .int x :: st) ah sz :=
  fun p l e s m args below meth c H locs ls X hA hS hL => lv_icmp_lt X.1 X.2.1 hd ht (fun q => kt q p l e s m args below meth c H locs ls X hA hS hL) (fun q => kf q p l e s m args below meth c H locs ls X hA hS hL)
theorem z_icmp_ge {x y : Int32} {off : Int} (tgt : Nat) (hd : decode (zcd M) pc = .ok (.if_icmp .ge off, 3)) (ht : (pc : Int) + off = (tgt : Int)) (kt : y ≤ x → zW G M R F cn sn tgt lv st ah sz) (kf : ¬ y ≤ x → zW G M R F cn sn (pc + 3) lv st ah sz) : zW G M R F cn sn pc lv (.int y :: .int x :: st) ah sz :=
  fun p l e s m args below meth c H locs ls X hA hS hL => lv_icmp_ge X.1 X.2.1 hd ht (fun q => kt q p l e s m args below meth c H locs ls X hA hS hL) (fun q => kf q p l e s m args below meth c H locs ls X hA hS hL)
theorem z_icmp_gt {x y : Int32} {off : Int} (tgt : Nat) (hd : decode (zcd M) pc = .ok (.if_icmp .gt off, 3)) (ht : (pc : Int) + off = (tgt : Int)) (kt : y < x → zW G M R F cn sn tgt lv st ah sz) (kf : ¬ y < x → zW G M R F cn sn (pc + 3) lv st ah sz) : zW G M R F cn sn pc lv (.int y :: .int x :: st) ah sz :=
  fun p l e s m args below meth c H locs ls X hA hS hL => lv_icmp_gt X.1 X.2.1 hd ht (fun q => kt q p l e s m args below meth c H locs ls X hA hS hL) (fun q => kf q p l e s m args below meth c H locs ls X hA hS hL)
theorem z_icmp_le {x y : Int32} {off : Int} (tgt : Nat) (hd : decode (zcd M) pc = .ok (.if_icmp .le off, 3)) (ht : (pc : Int) + off = (tgt : Int)) (kt : x ≤ y → zW G M R F cn sn tgt lv st ah sz) (kf : ¬ x ≤ y → zW G M R F cn sn (pc + 3) lv st ah sz) : zW G M R F cn sn pc lv (.int y :: .int x :: st) ah sz :=
  fun p l e s m args below meth c H locs ls X hA hS hL => lv_icmp_le X.1 X.2.1 hd ht (fun q => kt q p l e s m args below meth c H locs ls X hA hS hL) (fun q => kf q p l e s m args below meth c H locs ls X hA hS hL)
def zsw (P : Nat → Prop) (x : Int32) : Nat → List Nat → Prop
  | _, [] => True
  | j, t :: l => (x = nI j → P t) ∧ zsw P x (j + 1) l
theorem zsw_at {P : Nat → Prop} {x : Int32} : ∀ (l : List Nat) (j i t : Nat), zsw P x j l → l[i]? = some t → x = nI (j + i) → P t
  | [], _, _, _, _, h, _ => by cases h
  | u :: l, j, 0, t, hs, h, hx => by
    cases h
    exact hs.1 hx
  | u :: l, j, i + 1, t, hs, h, hx => zsw_at l (j + 1) i t hs.2 h (by rw [hx]; congr 1; omega)
theorem z_table {x : Int32} {dflt lo hi : Int} {offs : Array Int} {len : Nat} (lo' : Nat) (tgts : List Nat) (dft : Nat) (hd : decode (zcd M) pc = .ok (.tableswitch dflt lo hi offs, len))
    (hc : (lo = (lo' : Int) ∧ hi + 1 = (lo' : Int) + (tgts.length : Int) ∧ (pc : Int) + dflt = (dft : Int) ∧ lo' + tgts.length < 2 ^ 31) ∧ offs.toList.map (fun o => (pc : Int) + o) = tgts.map (fun t : Nat => Int.ofNat t))
    (kin : zsw (fun t => zW G M R F cn sn t lv st ah sz) x lo' tgts) (kout : (∀ j, lo' ≤ j → j < lo' + tgts.length → ¬ x = nI j) → zW G M R F cn sn dft lv st ah sz) : zW G M R F cn sn pc lv (.int x :: st) ah sz := by
  intro p l e s m args below meth c H locs ls X hA hS hL
  obtain ⟨⟨rfl, h2, h3, h5⟩, h4⟩ := hc
  by_cases hr : x.toInt < (lo' : Int) ∨ hi < x.toInt
  · refine lv_tableOut X.1 X.2.1 hd hr h3 (kout (fun j hj1 hj2 hx => ?_) p l e s m args below meth c H locs ls X hA hS hL)
    rw [hx, nI_toInt (by omega)] at hr
    omega
  · have h0 : ¬ x < 0 := by
      intro q
      have := Int32.lt_iff_toInt_lt.mp q
      rw [Int32.toInt_zero] at this
      omega
    obtain ⟨j, hj, rfl⟩ := nI_of h0
    rw [nI_toInt hj] at hr
    have hj1 : lo' ≤ j := by omega
    have hjl : j - lo' < tgts.length := by omega
    have ht : tgts[j - lo']? = some tgts[j - lo'] := List.getElem?_eq_getElem hjl
    have h6 : (offs.toList.map (fun o => (pc : Int) + o))[j - lo']? = (tgts.map (fun t : Nat => Int.ofNat t))[j - lo']? := by rw [h4]
    rw [List.getElem?_map, List.getElem?_map, ht] at h6
    cases ho : offs.toList[j - lo']? with
    | none => rw [ho] at h6; cases h6
    | some o =>
      rw [ho] at h6
      have h7 : (pc : Int) + o = ((tgts[j - lo'] : Nat) : Int) := Option.some.inj h6
      have ho2 : offs[j - lo']? = some o := by rw [← Array.getElem?_toList]; exact ho
      refine lv_tableIn (off := o) X.1 X.2.1 hd (by rw [nI_toInt hj]; omega) (by rw [nI_toInt hj]; omega) (by rw [nI_toInt hj, show ((j : Int) - (lo' : Int)).toNat = j - lo' by omega]; exact ho2) h7 ?_
      exact zsw_at tgts lo' (j - lo') _ kin ht (by congr 1; omega) p l e s m args below meth c H locs ls X hA hS hL
/-- a class of the worlds: its name, fields, their types, how many -/
def zCl (ci : Nat) (C : String) (T : u_T) (ty : Nat → FieldType) (N : Nat) : Prop := vwCl[ci]? = some (C, T, N) ∧ (∀ w ∈ u_ws C T N, w ∈ lw_gd) ∧ (∀ k, k < N → parseFieldDescriptor (T k).2.2.1 = some (ty k)) ∧ (∀ a, a < N → ∀ b, b < N → a ≠ b → (T a).2.1 ≠ (T b).2.1)
/-- a field that an instruction names: place k of class ci, of type t, final or not -/
def zFl (own : String) (index ci k : Nat) (t : FieldType) (fin : Bool) : Prop := ∃ (C : String) (T : u_T) (ty : Nat → FieldType) (N : Nat), zCl ci C T ty N ∧ k < N ∧ ty k = t ∧ (T k).2.2.2 = fin ∧ (T k).1 = C ∧ (Cond.fieldLink own index C (T k).2.1 (T k).2.2.1 ∈ lw_gd ∨ ∃ host, Cond.fieldLinkNest own index C (T k).2.1 (T k).2.2.1 host ∈ lw_tbl)
theorem z_getf {ci k index a : Nat} {t : FieldType} {fin : Bool} {fs : List Value} {v : Value} (hf : zFl M.1 index ci k t fin) (hd : decode (zcd M) pc = .ok (.getfield index, 3)) (he : ah a = some (.inr (ci, fs))) (hv : fs[k]? = some v) (kk : zW G M R F cn sn (pc + 3) lv (v :: st) ah sz) : zW G M R F cn sn pc lv (.ref a :: st) ah sz := by
  intro p l e s m args below meth c H locs ls X hA hS hL
  obtain ⟨C, T, ty, N, ⟨h1, h2, h3, h4⟩, hk, rfl, rfl, hC, hl⟩ := hf
  have hP : va_P G.1.1 vwCl [(a, .inr (ci, fs))] H := fun j q hq => by
    cases j with
    | zero => cases hq; exact (hA.2 a _ he).2
    | succ j => cases hq
  rcases hl with hl | ⟨host, hl⟩
  · exact va_get (C := C) (T := T) (N := N) (ref := C) X.1 X.2.1 X.2.2.2.2.2.1 h2 X.2.2.2.2.1 X.2.2.2.2.2.2.2.2.1 hP 0 rfl h1 k hk (X.2.2.2.2.2.1 _ hl) (fun x h => by rw [hC] at h; exact h) hv hd (kk p l e s m args below meth c H locs ls X hA hS hL)
  · exact va_getN (C := C) (T := T) (N := N) (ref := C) X.1 X.2.1 X.2.2.2.2.2.1 h2 X.2.2.2.2.1 X.2.2.2.2.2.2.2.2.1 hP 0 rfl h1 k hk (va_Nw.use rfl (zXn X hl rfl)) (fun x h => by rw [hC] at h; exact h) hv hd (kk p l e s m args below meth c H locs ls X hA hS hL)
theorem zB1 {G : zG} {a : Nat} {e : va_E} (h : zz G ≤ a) : va_D (zB G) [(a, e)] := by
  refine ⟨fun i j p q hi hj _ => ?_, fun k q hk => ?_⟩
  · have h1 : i < 1 := (List.getElem?_eq_some_iff.mp hi).1
    have h2 : j < 1 := (List.getElem?_eq_some_iff.mp hj).1
    omega
  · have h1 : k < 1 := (List.getElem?_eq_some_iff.mp hk).1
    rw [show k = 0 by omega] at hk
    cases hk
    exact h
theorem zP1 {G : zG} {a : Nat} {e : va_E} {H : Heap} (h : va_at G.1.1 vwCl (a, e) H) : va_P G.1.1 vwCl [(a, e)] H := fun j q hq => by
  cases j with
  | zero => cases hq; exact h
  | succ j => cases hq
/-- what lies elsewhere stays: from the frame of one store -/
theorem zA.put {G : zG} {sz a : Nat} {ah : zH} {e : zE} {H H1 : Heap} {locs1 : List Loc} (h : zA G sz ah H) (ha : zz G ≤ a) (hP : va_P G.1.1 vwCl [(a, zcv G e)] H1) (hz : H1.size = H.size) (oq : ∀ q : Nat, q ≠ a → H1[q]? = H[q]?) : zA G sz (zu ah a e) H1 := h.set ha (hP 0 _ rfl) hz oq
theorem z_putf {ci k index a : Nat} {t : FieldType} {fs : List Value} {v : Value} (hf : zFl M.1 index ci k t false) (hd : decode (zcd M) pc = .ok (.putfield index, 3)) (he : ah a = some (.inr (ci, fs))) (hl : k < fs.length) (hn : narrow t v = v ∧ fits t v = true) (kk : zW G M R F cn sn (pc + 3) lv st (zu ah a (.inr (ci, fs.set k v))) sz) : zW G M R F cn sn pc lv (v :: .ref a :: st) ah sz := by
  intro p l e s m args below meth c H locs ls X hA hS hL
  obtain ⟨C, T, ty, N, ⟨h1, h2, h3, h4⟩, hk, rfl, hfin, hC, hlk⟩ := hf
  obtain ⟨hza, hat⟩ := hA.2 a _ he
  have hap := va_apart (own := M.1) X.2.2.2.2.2.1 h2 ty h3 h4 X.2.2.2.2.2.2.2.2.1 h1
  obtain ⟨r, hr1, cell, q1, q2, q3, q4⟩ := hat
  have hr : r = (C, T, N) := Option.some.inj (hr1.symm.trans h1)
  subst hr
  obtain ⟨hSl, hfc, kC, hkC, hkind⟩ := X.2.2.2.2.2.2.2.2.1.1 ci _ h1
  obtain ⟨cf, kf, fi, f, hi, hsl⟩ := hSl k hk
  have hlay := X.2.2.2.2.2.1 _ (h2 _ (u_in_lay hk))
  unfold u_lay at hlay
  rw [if_neg (by rw [hfin]; decide)] at hlay
  have hst := (u_facts hfc hkC (u_lays X.2.2.2.2.2.1 h2 hk) hi).1
  have h6 := u_store hfc hkC hkind hlay hi (h3 k hk) hn.1 hn.2
  have hi' : s.fieldFound? C (T k).2.1 (T k).2.2.1 = some (cf, kf, fi, f) := hC ▸ hi
  have fin : ∀ H' : Heap, H'[a]? = some (cell.setSlot f.slot v) → H'.size = H.size → (∀ q, q ≠ a → H'[q]? = H[q]?) → W p l e R s m args below meth c H' (locs ++ [⟨a, f.slot⟩]) cn sn (F s args below) (F0 m (pc + 3) ls st) := fun H' e1 e2 e3 => by
    rw [hsl] at e1 ⊢
    exact kk p l e s m args below meth c H' _ ls X (hA.set hza ⟨_, h1, t_OB.to (V := updV (vp_V fs) k v) ⟨_, e1, q2, q3, t_set q4 hap hk v⟩ (fun j _ => vp_updV_set hl v j)⟩ e2 e3) (hS.put e2 e3 hza) hL
  rcases hlk with hlk | ⟨host, hlk⟩
  · exact W.putK X.1 X.2.1 (f := f) ⟨X.2.2.2.2.1, X.2.2.2.2.2.1 _ hlk, ⟨_, _, _, hi'⟩, hst⟩ (by rw [q2]; exact h6) q1 q3 (by rw [hsl]; exact k2_hasslot (q4 k hk)) rfl rfl hd fin
  · exact va_WputK X.1 X.2.1 (f := f) X.2.2.2.2.1 (va_Nw.use rfl (zXn X hlk rfl)) hi' hst (by rw [q2]; exact h6) q1 q3 (by rw [hsl]; exact k2_hasslot (q4 k hk)) rfl rfl hd fin
def zFF (own : String) (index ci k : Nat) (t : FieldType) : Prop := ∃ (C : String) (T : u_T) (ty : Nat → FieldType) (N : Nat), zCl ci C T ty N ∧ k < N ∧ ty k = t ∧ (T k).2.2.2 = true ∧ (T k).1 = C ∧ C = own ∧ Cond.fieldLink own index C (T k).2.1 (T k).2.2.1 ∈ lw_gd
theorem z_putF {ci k index a : Nat} {t : FieldType} {fs : List Value} {v : Value} (hf : zFF M.1 index ci k t) (hd : decode (zcd M) pc = .ok (.putfield index, 3)) (he : ah a = some (.inr (ci, fs))) (hM : M.2.1.name = "<init>") (hl : k < fs.length) (hn : narrow t v = v ∧ fits t v = true) (kk : zW G M R F cn sn (pc + 3) lv st (zu ah a (.inr (ci, fs.set k v))) sz) : zW G M R F cn sn pc lv (v :: .ref a :: st) ah sz := by
  intro p l e s m args below meth c H locs ls X hA hS hL
  obtain ⟨C, T, ty, N, ⟨h1, h2, h3, h4⟩, hk, rfl, hfin, hC, hCM, hlk⟩ := hf
  obtain ⟨hza, hat⟩ := hA.2 a _ he
  have hap := va_apart (own := M.1) X.2.2.2.2.2.1 h2 ty h3 h4 X.2.2.2.2.2.2.2.2.1 h1
  obtain ⟨r, hr1, cell, q1, q2, q3, q4⟩ := hat
  have hr : r = (C, T, N) := Option.some.inj (hr1.symm.trans h1)
  subst hr
  obtain ⟨hSl, hfc, kC, hkC, hkind⟩ := X.2.2.2.2.2.2.2.2.1.1 ci _ h1
  obtain ⟨cf, kf, fi, f, hi, hsl⟩ := hSl k hk
  have hlay := X.2.2.2.2.2.1 _ (h2 _ (u_in_lay hk))
  unfold u_lay at hlay
  rw [if_pos hfin] at hlay
  have hst := (u_facts hfc hkC (u_lays X.2.2.2.2.2.1 h2 hk) hi).1
  have hcf : m.cls = cf := by
    obtain ⟨_, _, c', _, _, _, -, -, hf', -, -, -, hown2, -⟩ := Cond.laysFinal_spec hlay
    have e1 : c' = cf := by have := hi.symm.trans hf'; simp at this; exact this.1.symm
    rw [hC, hCM] at hown2
    rw [← e1]; exact Option.some.inj (X.2.2.2.2.1.symm.trans hown2)
  have h6 := u_fits hfc hkC hkind (Or.inr hlay) hi (h3 k hk) hn.1 hn.2
  have hi' : s.fieldFound? C (T k).2.1 (T k).2.2.1 = some (cf, kf, fi, f) := hC ▸ hi
  refine W.putFinK X.1 X.2.1 X.2.2.2.2.1 (X.2.2.2.2.2.1 _ hlk) hi' hst hcf (X.2.2.2.2.2.2.2.1.trans hM) (by rw [q2]; exact h6) q1 q3 (by rw [hsl]; exact k2_hasslot (q4 k hk)) rfl rfl hd fun H' e1 e2 e3 => ?_
  rw [hsl] at e1 ⊢
  exact kk p l e s m args below meth c H' _ ls X (hA.set hza ⟨_, h1, t_OB.to (V := updV (vp_V fs) k v) ⟨_, e1, q2, q3, t_set q4 hap hk v⟩ (fun j _ => vp_updV_set hl v j)⟩ e2 e3) (hS.put e2 e3 hza) hL
/-! arrays -/
theorem z_iald {n a : Nat} {f : Nat → Int32} {i : Int32} (hd : decode (zcd M) pc = .ok (.iaload, 1)) (he : ah a = some (.inl (0, n, .inl f))) (hin : vp_in i n) (kk : zW G M R F cn sn (pc + 1) lv (.int (f i.toNatClampNeg) :: st) ah sz) : zW G M R F cn sn pc lv (.int i :: .ref a :: st) ah sz := by
  intro p l e s m args below meth c H locs ls X hA hS hL
  exact va_iald X.1 X.2.1 X.2.2.2.2.2.2.2.2.1 (zP1 (hA.2 a _ he).2) 0 0 rfl (ztys_at G (by decide)) hin hd (kk p l e s m args below meth c H locs ls X hA hS hL)
theorem z_lald {n a : Nat} {f : Nat → Int64} {i : Int32} (hd : decode (zcd M) pc = .ok (.laload, 1)) (he : ah a = some (.inl (1, n, .inr (.inl f)))) (hin : vp_in i n) (kk : zW G M R F cn sn (pc + 1) lv (.long (f i.toNatClampNeg) :: st) ah sz) : zW G M R F cn sn pc lv (.int i :: .ref a :: st) ah sz := by
  intro p l e s m args below meth c H locs ls X hA hS hL
  exact va_lald X.1 X.2.1 X.2.2.2.2.2.2.2.2.1 (zP1 (hA.2 a _ he).2) 0 1 rfl (ztys_at G (by decide)) hin hd (kk p l e s m args below meth c H locs ls X hA hS hL)
theorem z_bald {n a : Nat} {f : Nat → Int32} {i : Int32} (hd : decode (zcd M) pc = .ok (.baload, 1)) (he : ah a = some (.inl (2, n, .inl f))) (hin : vp_in i n) (kk : zW G M R F cn sn (pc + 1) lv (.int (f i.toNatClampNeg) :: st) ah sz) : zW G M R F cn sn pc lv (.int i :: .ref a :: st) ah sz := by
  intro p l e s m args below meth c H locs ls X hA hS hL
  exact va_bald X.1 X.2.1 X.2.2.2.2.2.2.2.2.1 (zP1 (hA.2 a _ he).2) 0 2 rfl (ztys_at G (by decide)) hin hd (kk p l e s m args below meth c H locs ls X hA hS hL)
theorem z_aald {k n a b : Nat} {f : Nat → Option Nat} {i : Int32} (hk : k < 7 ∧ (zT k).isReference = true) (hd : decode (zcd M) pc = .ok (.aaload, 1)) (he : ah a = some (.inl (k, n, .inr (.inr (.inr (.inr f)))))) (hin : vp_in i n) (hf : f i.toNatClampNeg = some b) (kk : zW G M R F cn sn (pc + 1) lv (.ref b :: st) ah sz) : zW G M R F cn sn pc lv (.int i :: .ref a :: st) ah sz := by
  intro p l e s m args below meth c H locs ls X hA hS hL
  have hlt : i.toNatClampNeg < n := Nat.not_le.mp fun q => hin (Or.inr q)
  have hP : H[a]? = some (vp_cell (G.1.2 k) (n, .inr (.inr (.inr (.inr f))))) := (hA.2 a _ he).2
  refine W.aald (v := .ref b) (ty := zT k) X.1 X.2.1 hP ((X.2.2.2.2.2.2.2.2.1.2 k _ (ztys_at G hk.1)).1 n (fun j => va_rf (f j))) hk.2 (fun q => by cases q) ?_ ?_ rfl rfl hd (kk p l e s m args below meth c H locs ls X hA hS hL)
  · show ¬ (i < 0 ∨ (arrV _ _ _).slots.size ≤ _); rw [arrV_size]; exact hin
  · show (arrV _ _ _).slots[_]? = _; rw [arrV_read _ _ hlt, hf]; rfl
theorem z_iast {n a : Nat} {f : Nat → Int32} {i x : Int32} (hd : decode (zcd M) pc = .ok (.iastore, 1)) (he : ah a = some (.inl (0, n, .inl f))) (hin : vp_in i n) (kk : zW G M R F cn sn (pc + 1) lv st (zu ah a (.inl (0, n, .inl (upd f i.toNatClampNeg x)))) sz) : zW G M R F cn sn pc lv (.int x :: .int i :: .ref a :: st) ah sz := by
  intro p l e s m args below meth c H locs ls X hA hS hL
  obtain ⟨hza, hat⟩ := hA.2 a _ he
  have hP : H[a]? = some (vp_cell (G.1.2 0) (n, .inl f)) := hat
  refine W.iast X.1 X.2.1 hP ((X.2.2.2.2.2.2.2.2.1.2 0 _ (ztys_at G (by decide))).1 n (fun j => .int (f j))) (fun q => by cases q) (by show ¬ (i < 0 ∨ (arrV _ _ _).slots.size ≤ _); rw [arrV_size]; exact hin) rfl rfl hd fun H1 e1 z oq => ?_
  refine kk p l e s m args below meth c H1 _ ls X (hA.set hza ?_ z oq) (hS.put z oq hza) hL
  show H1[a]? = some (vp_cell _ _)
  rw [e1, vp_cell_i, vp_cell_i, arrV_store]
  congr 2
  funext q
  by_cases hq : q = i.toNatClampNeg
  · subst hq
    simp [updV, upd]
  · simp [updV, upd, hq]
theorem z_bast {n a : Nat} {f : Nat → Int32} {i x : Int32} (hd : decode (zcd M) pc = .ok (.bastore, 1)) (he : ah a = some (.inl (2, n, .inl f))) (hin : vp_in i n) (kk : zW G M R F cn sn (pc + 1) lv st (zu ah a (.inl (2, n, .inl (upd f i.toNatClampNeg x.toInt8.toInt32)))) sz) : zW G M R F cn sn pc lv (.int x :: .int i :: .ref a :: st) ah sz := by
  intro p l e s m args below meth c H locs ls X hA hS hL
  obtain ⟨hza, hat⟩ := hA.2 a _ he
  have hP : H[a]? = some (vp_cell (G.1.2 2) (n, .inl f)) := hat
  refine W.bast X.1 X.2.1 hP ((X.2.2.2.2.2.2.2.2.1.2 2 _ (ztys_at G (by decide))).1 n (fun j => .int (f j))) (fun q => by cases q) (by show ¬ (i < 0 ∨ (arrV _ _ _).slots.size ≤ _); rw [arrV_size]; exact hin) rfl rfl hd fun H1 e1 z oq => ?_
  refine kk p l e s m args below meth c H1 _ ls X (hA.set hza ?_ z oq) (hS.put z oq hza) hL
  show H1[a]? = some (vp_cell _ _)
  rw [e1, vp_cell_i, vp_cell_i, arrV_store]
  congr 2
  funext q
  by_cases hq : q = i.toNatClampNeg
  · subst hq
    simp [updV, upd, narrow]
  · simp [updV, upd, hq]
theorem z_last {n a : Nat} {f : Nat → Int64} {i : Int32} {x : Int64} (hd : decode (zcd M) pc = .ok (.lastore, 1)) (he : ah a = some (.inl (1, n, .inr (.inl f)))) (hin : vp_in i n) (kk : zW G M R F cn sn (pc + 1) lv st (zu ah a (.inl (1, n, .inr (.inl (vp_updL f i.toNatClampNeg x))))) sz) : zW G M R F cn sn pc lv (.long x :: .int i :: .ref a :: st) ah sz := by
  intro p l e s m args below meth c H locs ls X hA hS hL
  obtain ⟨hza, hat⟩ := hA.2 a _ he
  have hP : H[a]? = some (vp_cell (G.1.2 1) (n, .inr (.inl f))) := hat
  refine W.last X.1 X.2.1 hP ((X.2.2.2.2.2.2.2.2.1.2 1 _ (ztys_at G (by decide))).1 n (fun j => .long (f j))) (fun q => by cases q) (by show ¬ (i < 0 ∨ (arrV _ _ _).slots.size ≤ _); rw [arrV_size]; exact hin) rfl rfl hd fun H1 e1 z oq => ?_
  refine kk p l e s m args below meth c H1 _ ls X (hA.set hza ?_ z oq) (hS.put z oq hza) hL
  show H1[a]? = some (vp_cell _ _)
  rw [e1, vp_cell_l, vp_cell_l, arrV_store]
  congr 2
  funext q
  by_cases hq : q = i.toNatClampNeg
  · subst hq
    simp [updV, vp_updL]
  · simp [updV, vp_updL, hq]
theorem z_aast {k n a v ci : Nat} {f : Nat → Option Nat} {fs : List Value} {i : Int32} (hk : k < 7) {C : String} (hkC : zT k = .object C ∧ (vwCl[ci]?).map (·.1) = some C) (hd : decode (zcd M) pc = .ok (.aastore, 1)) (he : ah a = some (.inl (k, n, .inr (.inr (.inr (.inr f)))))) (hv : ah v = some (.inr (ci, fs))) (hin : vp_in i n) (kk : zW G M R F cn sn (pc + 1) lv st (zu ah a (.inl (k, n, .inr (.inr (.inr (.inr (va_up f i.toNatClampNeg (some v)))))))) sz) : zW G M R F cn sn pc lv (.ref v :: .int i :: .ref a :: st) ah sz := by
  intro p l e s m args below meth c H locs ls X hA hS hL
  obtain ⟨hza, hat⟩ := hA.2 a _ he
  have hP : H[a]? = some (vp_cell (G.1.2 k) (n, .inr (.inr (.inr (.inr f))))) := hat
  have hlt : i.toNatClampNeg < n := Nat.not_le.mp fun q => hin (Or.inr q)
  have h0 : ¬ i < 0 := fun q => hin (Or.inl q)
  obtain ⟨r, hr1, cellV, g1, g2, g3, -⟩ := (hA.2 v _ hv).2
  have hr : r.1 = C := by
    have := hkC.2
    rw [hr1] at this
    exact Option.some.inj this
  have hcls := (X.2.2.2.2.2.2.2.2.1.1 ci r hr1).2
  have hra := (X.2.2.2.2.2.2.2.2.1.2 k _ (ztys_at G hk)).2
  rw [hkC.1] at hra
  obtain ⟨kA, comp, k1, k2, k3, -⟩ := hra
  have hcomp : comp = G.1.1.1 ci := Option.some.inj (k3.symm.trans (hr ▸ hcls.1))
  subst hcomp
  obtain ⟨kC, hkC2, -⟩ := hcls.2
  refine W.aast X.1 X.2.1 hP (fun q h => by cases h) (fun h => by cases h) k1 k2 rfl hkC2 ⟨h0, by show _ < (arrV _ _ _).slots.size; rw [arrV_size]; exact hlt⟩ g1 (fun q h => by rw [g3] at h; cases h) (by rw [g2]; exact hkC2) (by rw [g2]; exact va_assign hcls) rfl rfl hd fun H1 e1 z oq => ?_
  refine kk p l e s m args below meth c H1 _ ls X (hA.set hza ?_ z oq) (hS.put z oq hza) hL
  show H1[a]? = some (vp_cell _ _)
  rw [e1, vp_cell_q, vp_cell_q, arrV_store]
  congr 2
  funext q
  by_cases hq : q = i.toNatClampNeg
  · subst hq
    simp [updV, va_up, va_rf]
  · simp [updV, va_up, hq]
theorem z_alen {k a : Nat} {x : vp_A} (v : Int32) (hd : decode (zcd M) pc = .ok (.arraylength, 1)) (hk : k < 7) (he : ah a = some (.inl (k, x))) (hv : Int32.ofNat x.1 = v) (kk : zW G M R F cn sn (pc + 1) lv (.int v :: st) ah sz) : zW G M R F cn sn pc lv (.ref a :: st) ah sz := by
  intro p l e s m args below meth c H locs ls X hA hS hL
  exact va_alen X.1 X.2.1 X.2.2.2.2.2.2.2.2.1 (zP1 (hA.2 a _ he).2) 0 k rfl (ztys_at G hk) hv hd (kk p l e s m args below meth c H locs ls X hA hS hL)
/-! the law's script, the literals, a static -/
theorem z_sld {i : Int32} (hd : decode (zcd M) pc = .ok (.iaload, 1)) (hin : vp_in i (zbL G)) (kk : zW G M R F cn sn (pc + 1) lv (.int (zbx G i.toNatClampNeg) :: st) ah sz) : zW G M R F cn sn pc lv (.int i :: .ref (zb G) :: st) ah sz := by
  intro p l e s m args below meth c H locs ls X hA hS hL
  have hK := X.2.2.2.2.2.2.2.2
  have hbz := hK.2.2.2.2.1.2
  exact va_sld X.1 X.2.1 hK.2.2.2.2.1.1 (Nat.lt_of_lt_of_le hbz hK.2.2.2.2.2.1) (Nat.not_le.mpr hbz) hS hin hd (kk p l e s m args below meth c H locs ls X hA hS hL)
theorem z_slen (hd : decode (zcd M) pc = .ok (.arraylength, 1)) (kk : zW G M R F cn sn (pc + 1) lv (.int (Int32.ofNat (zbL G)) :: st) ah sz) : zW G M R F cn sn pc lv (.ref (zb G) :: st) ah sz := by
  intro p l e s m args below meth c H locs ls X hA hS hL
  have hK := X.2.2.2.2.2.2.2.2
  have hbz := hK.2.2.2.2.1.2
  exact va_slen X.1 X.2.1 hK.2.2.2.2.1.1 (Nat.lt_of_lt_of_le hbz hK.2.2.2.2.2.1) (Nat.not_le.mpr hbz) hS hd (kk p l e s m args below meth c H locs ls X hA hS hL)
theorem z_gets {index : Nat} (hl : Cond.fieldLink M.1 index "java/lang/String" "COMPACT_STRINGS" "Z" ∈ lw_gd) (hd : decode (zcd M) pc = .ok (.getstatic index, 3)) (kk : zW G M R F cn sn (pc + 3) lv (.int 1 :: st) ah sz) : zW G M R F cn sn pc lv st ah sz := by
  intro p l e s m args below meth c H locs ls X hA hS hL
  exact va_gets X.1 X.2.1 X.2.2.2.2.2.2.2.2.2.1 hS X.2.2.2.2.1 (X.2.2.2.2.2.1 _ hl) (fun _ h => h) hd (kk p l e s m args below meth c H locs ls X hA hS hL)
theorem z_getsF {index : Nat} (hl : Cond.fieldLink M.1 index "jdk/internal/util/Preconditions" "SIOOBE_FORMATTER" "Ljava/util/function/BiFunction;" ∈ lw_gd) (hd : decode (zcd M) pc = .ok (.getstatic index, 3)) (kk : (zfv G).category = 1 → zW G M R F cn sn (pc + 3) lv (zfv G :: st) ah sz) : zW G M R F cn sn pc lv st ah sz := by
  intro p l e s m args below meth c H locs ls X hA hS hL
  exact va_gets X.1 X.2.1 X.2.2.2.2.2.2.2.2.2.2.2.2.2.2.1 hS X.2.2.2.2.1 (X.2.2.2.2.2.1 _ hl) (fun _ h => h) hd (kk X.2.2.2.2.2.2.2.2.2.2.2.2.2.2.2.1 p l e s m args below meth c H locs ls X hA hS hL)
theorem z_getSv {index i : Nat} (hi : i < 7) (hl : Cond.fieldLink M.1 index "java/lang/String" "value" "[B" ∈ lw_gd) (hd : decode (zcd M) pc = .ok (.getfield index, 3)) (kk : zW G M R F cn sn (pc + 3) lv (.ref (zsV G i) :: st) ah sz) : zW G M R F cn sn pc lv (.ref (zsK G i) :: st) ah sz := by
  intro p l e s m args below meth c H locs ls X hA hS hL
  exact vk_getf X.1 X.2.1 (X.2.2.2.2.2.2.2.2.2.2.1.1 i hi).2.2.1 hS X.2.2.2.2.1 (X.2.2.2.2.2.1 _ hl) (fun _ h => h) hd (kk p l e s m args below meth c H locs ls X hA hS hL)
theorem z_getSc {index i : Nat} (hi : i < 7) (hl : Cond.fieldLink M.1 index "java/lang/String" "coder" "B" ∈ lw_gd) (hd : decode (zcd M) pc = .ok (.getfield index, 3)) (kk : zW G M R F cn sn (pc + 3) lv (.int 0 :: st) ah sz) : zW G M R F cn sn pc lv (.ref (zsK G i) :: st) ah sz := by
  intro p l e s m args below meth c H locs ls X hA hS hL
  exact vk_getf X.1 X.2.1 (X.2.2.2.2.2.2.2.2.2.2.1.1 i hi).2.1 hS X.2.2.2.2.1 (X.2.2.2.2.2.1 _ hl) (fun _ h => h) hd (kk p l e s m args below meth c H locs ls X hA hS hL)
theorem z_baldS {i : Nat} {j : Int32} (hi : i < 7) (hd : decode (zcd M) pc = .ok (.baload, 1)) (hin : vp_in j (zlen.getD i 0)) (kk : zW G M R F cn sn (pc + 1) lv (.int ((zbyt.getD i []).getD j.toNatClampNeg 0) :: st) ah sz) : zW G M R F cn sn pc lv (.int j :: .ref (zsV G i) :: st) ah sz := by
  intro p l e s m args below meth c H locs ls X hA hS hL
  exact va_tb X.1 X.2.1 (X.2.2.2.2.2.2.2.2.2.2.1.1 i hi).2.2.2 hS hin rfl hd (kk p l e s m args below meth c H locs ls X hA hS hL)
theorem z_alenS {i : Nat} (v : Int32) (hi : i < 7) (hv : Int32.ofNat (zlen.getD i 0) = v) (hd : decode (zcd M) pc = .ok (.arraylength, 1)) (kk : zW G M R F cn sn (pc + 1) lv (.int v :: st) ah sz) : zW G M R F cn sn pc lv (.ref (zsV G i) :: st) ah sz := by
  intro p l e s m args below meth c H locs ls X hA hS hL
  exact va_tlen X.1 X.2.1 (X.2.2.2.2.2.2.2.2.2.2.1.1 i hi).2.2.2 hS hv hd (kk p l e s m args below meth c H locs ls X hA hS hL)
/-! new cells -/
theorem z_new {ci index N : Nat} {C : String} {fs : List Value} (hf : ∃ (T : u_T) (ty : Nat → FieldType), zCl ci C T ty N ∧ ∀ j, j < N → defaultValue (ty j) = vp_V fs j) (hl : Cond.classLink M.1 index C ∈ lw_gd ∧ Cond.instantiable C N ∈ lw_gd ∧ Cond.initialized C ∈ lw_gd) (hd : decode (zcd M) pc = .ok (.new index, 3)) (hr : cn + 1 ≤ R.cells ∧ sn + N ≤ R.slots)
    (kk : zW G M R F (cn + 1) (sn + N) (pc + 3) lv (.ref sz :: st) (zu ah sz (.inr (ci, fs))) (sz + 1)) : zW G M R F cn sn pc lv st ah sz := by
  intro p l e s m args below meth c H locs ls X hA hS hL
  obtain ⟨T, ty, ⟨h1, h2, h3, h4⟩, hfs⟩ := hf
  have hKn := X.2.2.2.2.2.2.2.2.1.1 ci _ h1
  have hzz : zz G ≤ H.size := Nat.le_trans X.2.2.2.2.2.2.2.2.2.2.2.2.2.1 hS.1
  refine W.newcK X.1 X.2.1 X.2.2.2.2.1 (X.2.2.2.2.2.1 _ hl.1) (X.2.2.2.2.2.1 _ hl.2.1) (X.2.2.2.2.2.1 _ hl.2.2) rfl hd hr.1 hr.2 hKn.2.1 hA.1 fun H1 kC hkC e1 z1 o1 => ?_
  refine kk p l e s m args below meth c H1 locs ls X (hA.new hzz ⟨_, h1, (u_born ty X.2.2.2.2.2.1 h2 hKn hkC e1 h3).to hfs⟩ z1 o1) ⟨Nat.le_trans hS.1 (by rw [z1, hA.1]; omega), fun q g1 g2 => (o1 q (by rw [← hA.1]; exact Nat.lt_of_lt_of_le g1 hS.1)).trans (hS.2.1 q g1 g2), hS.2.2⟩ hL
theorem z_newa {k N : Nat} {atype : ArrayType} {a0 : vp_A} {n : Int32} (hl : Cond.arrayClass (newarray.typeOf atype) ∈ lw_gd) (hk : k < 3 ∧ zT k = newarray.typeOf atype) (ha : ∀ cA : ClassId, vp_cell cA a0 = arrV cA N (fun _ => defaultValue (newarray.typeOf atype))) (hn : ¬ n < 0 ∧ n.toNatClampNeg = N) (hb : N * componentBytes (newarray.typeOf atype) ≤ 536870912) (hd : decode (zcd M) pc = .ok (.newarray atype, 2)) (hr : cn + 1 ≤ R.cells ∧ sn + N ≤ R.slots)
    (kk : zW G M R F (cn + 1) (sn + N) (pc + 2) lv (.ref sz :: st) (zu ah sz (.inl (k, a0))) (sz + 1)) : zW G M R F cn sn pc lv (.int n :: st) ah sz := by
  intro p l e s m args below meth c H locs ls X hA hS hL
  have hzz : zz G ≤ H.size := Nat.le_trans X.2.2.2.2.2.2.2.2.2.2.2.2.2.1 hS.1
  refine va_newaK X.1 X.2.1 (X.2.2.2.2.2.1 _ hl) rfl hd rfl hn.1 hn.2 hb hr.1 hr.2 hA.1 fun H1 cA e1 z1 o1 _ hNm => ?_
  have hra := (X.2.2.2.2.2.2.2.2.1.2 k _ (ztys_at G (Nat.lt_trans hk.1 (by decide)))).2
  have hcA : cA = G.1.2 k := by
    have h9 : s.vm.findClass ("[" ++ (zT k).toString) = some (G.1.2 k) := by
      match k, hk with
      | 0, _ => exact hra
      | 1, _ => exact hra
      | 2, _ => exact hra
      | k + 3, hk => omega
    rw [hk.2] at h9
    exact Option.some.inj (hNm.symm.trans h9)
  subst hcA
  refine kk p l e s m args below meth c H1 locs ls X (hA.new hzz (show H1[sz]? = some (vp_cell _ _) by rw [ha]; exact e1) z1 o1) ⟨Nat.le_trans hS.1 (by rw [z1, hA.1]; omega), fun q g1 g2 => (o1 q (by rw [← hA.1]; exact Nat.lt_of_lt_of_le g1 hS.1)).trans (hS.2.1 q g1 g2), hS.2.2⟩ hL
theorem z_anew {k N index : Nat} {C : String} {n : Int32} (hl : Cond.classLink M.1 index C ∈ lw_gd ∧ Cond.arrayOver (.object C) ∈ lw_tbl) (hk : k < 7 ∧ zT k = .object C) (hn : ¬ n < 0 ∧ n.toNatClampNeg = N) (hb : N * 4 ≤ 536870912) (hd : decode (zcd M) pc = .ok (.anewarray index, 3)) (hr : cn + 1 ≤ R.cells ∧ sn + N ≤ R.slots)
    (kk : zW G M R F (cn + 1) (sn + N) (pc + 3) lv (.ref sz :: st) (zu ah sz (.inl (k, N, .inr (.inr (.inr (.inr (fun _ => none))))))) (sz + 1)) : zW G M R F cn sn pc lv (.int n :: st) ah sz := by
  intro p l e s m args below meth c H locs ls X hA hS hL
  obtain ⟨hn0, rfl⟩ := hn
  obtain ⟨rfl, hA2⟩ := hA
  have hzz : zz G ≤ H.size := Nat.le_trans X.2.2.2.2.2.2.2.2.2.2.2.2.2.1 hS.1
  refine W.anew X.1 X.2.1 X.2.2.2.2.1 (X.2.2.2.2.2.1 _ hl.1) (va_AO.use (X.2.2.2.2.2.2.2.2.2.2.2.2.2.2.2.2.2 C hl.2)) rfl hd rfl hn0 hb hr.1 hr.2 fun cA kA comp f1 f2 f3 f4 => ?_
  generalize hH1 : H.push ({ cls := cA, slots := Array.replicate n.toNatClampNeg .null, vm := .none } : Cell) = H1
  have z1 : H1.size = H.size + 1 := by rw [← hH1, Array.size_push]
  have e1 : H1[H.size]? = some (arrV cA n.toNatClampNeg (fun _ => .null)) := by rw [← hH1, Array.getElem?_push_size, ← arrV_new]
  have o1 : ∀ q : Nat, q < H.size → H1[q]? = H[q]? := fun q hq => by rw [← hH1, Array.getElem?_push, if_neg (Nat.ne_of_lt hq)]
  have hra := (X.2.2.2.2.2.2.2.2.1.2 k _ (ztys_at G hk.1)).2
  rw [hk.2] at hra
  obtain ⟨kA', comp', g1, g2, g3, g4⟩ := hra
  have hcA : cA = G.1.2 k := Option.some.inj (f1.symm.trans g4)
  subst hcA
  refine kk p l e s m args below meth c H1 locs ls X (zA.new ⟨rfl, hA2⟩ hzz (show H1[H.size]? = some (vp_cell _ _) from e1) z1 o1) ⟨Nat.le_trans hS.1 (by rw [z1]; omega), fun q g1 g2 => (o1 q (Nat.lt_of_lt_of_le g1 hS.1)).trans (hS.2.1 q g1 g2), hS.2.2⟩ hL
theorem z_objInit {index a : Nat} (hl : Cond.methodLink M.1 index Lib.objectInit ∈ lw_gd ∧ Cond.instanceMethod Lib.objectInit ∈ lw_gd ∧ Cond.code Lib.objectInit ⟨#[0xb1]⟩ 1 none ∈ lw_gd) (hd : decode (zcd M) pc = .ok (.invokespecial index, 3)) (hr : 1 ≤ R.frames ∧ (st.map fun v => v.category).sum + 12 ≤ R.locals) (kk : zW G M R F cn sn (pc + 3) lv st ah sz) : zW G M R F cn sn pc lv (.ref a :: st) ah sz := by
  intro p l e s m args below meth c H locs ls X hA hS hL
  exact W.objInit X.1 X.2.1 X.2.2.2.2.1 (X.2.2.2.2.2.1 _ hl.1) (X.2.2.2.2.2.1 _ hl.2.1) (X.2.2.2.2.2.1 _ hl.2.2) rfl (by rw [X.2.2.2.1]; exact hL.1) rfl hd hr.1 (by show 2 * 0 + _ + 12 ≤ _; omega) (kk p l e s m args below meth c H locs ls X hA hS hL)
/-! returns -/
section ZRet
variable {Q : zPost} {mc ms : Nat}
theorem z_ireturn {v : Int32} {t : FieldType} (hd : decode (zcd M) pc = .ok (.ireturn, 1)) (hr : zrt M = some t) (hn : narrow t (.int v) = .int v) (hc : cn ≤ mc ∧ sn ≤ ms) (hq : Q (some (.int v)) ah sz) : zW G M R (zFm G Q mc ms) cn sn pc lv [.int v] ah sz := by
  intro p l e s m args below meth c H locs ls X hA hS hL
  refine W.widen hc.1 hc.2 ?_
  exact W.zret X.1 X.2.1 (X.2.2.1.trans hr) hn (fun t ht _ => ⟨⟨_, ah, sz, rfl, hq, by rw [ht]; exact hA⟩, hS.F ht⟩) hS.2.2 hd X.2.2.2.2.2.2.1
theorem z_lreturn {v : Int64} (hd : decode (zcd M) pc = .ok (.lreturn, 1)) (hr : zrt M = some .long) (hc : cn ≤ mc ∧ sn ≤ ms) (hq : Q (some (.long v)) ah sz) : zW G M R (zFm G Q mc ms) cn sn pc lv [.long v] ah sz := by
  intro p l e s m args below meth c H locs ls X hA hS hL
  refine W.widen hc.1 hc.2 ?_
  exact W.lret X.1 X.2.1 (X.2.2.1.trans hr) (fun t ht _ => ⟨⟨_, ah, sz, rfl, hq, by rw [ht]; exact hA⟩, hS.F ht⟩) hS.2.2 hd X.2.2.2.2.2.2.1
theorem z_areturn {a : Nat} {C : String} (hd : decode (zcd M) pc = .ok (.areturn, 1)) (hr : zrt M = some (.object C)) (hc : cn ≤ mc ∧ sn ≤ ms) (hq : Q (some (.ref a)) ah sz) : zW G M R (zFm G Q mc ms) cn sn pc lv [.ref a] ah sz := by
  intro p l e s m args below meth c H locs ls X hA hS hL
  refine W.widen hc.1 hc.2 ?_
  exact W.aret X.1 X.2.1 (X.2.2.1.trans hr) (Or.inl ⟨C, rfl⟩) (Or.inr ⟨a, rfl⟩) (fun t ht _ => ⟨⟨_, ah, sz, rfl, hq, by rw [ht]; exact hA⟩, hS.F ht⟩) hS.2.2 hd X.2.2.2.2.2.2.1
theorem z_return (hd : decode (zcd M) pc = .ok (.return_, 1)) (hr : zrt M = none) (hc : cn ≤ mc ∧ sn ≤ ms) (hq : Q none ah sz) : zW G M R (zFm G Q mc ms) cn sn pc lv [] ah sz := by
  intro p l e s m args below meth c H locs ls X hA hS hL
  refine W.widen hc.1 hc.2 ?_
  exact W.vret X.1 X.2.1 (X.2.2.1.trans hr) (fun t ht _ => ⟨⟨_, ah, sz, rfl, hq, by rw [ht]; exact hA⟩, hS.F ht⟩) hS.2.2 hd X.2.2.2.2.2.2.1
end ZRet
/-! calls -/
theorem zPc_blind {av : List Value} : FrameBlind (zPc G av ah sz) := fun a U g mk h => ⟨h.1, h.2.1, zK.same (s := U) rfl h.2.2⟩
theorem z_goes {M' : zM} {d' mc ms : Nat} {a : Array Value} {st0 rest : List Value} {Q : zPost} {p : Program} {l : Launch} {e : Env} {s : State} {m : MethodId} {args : Array Value} {below : List Frame} {meth : Method} {c : Code} {H : Heap} {locs : List Loc} {ls : Array Slot}
    (hr : va_Run p l e R s m args below meth c H locs cn sn mc ms (F0 m pc ls st0) rest (zQ G Q a) (zB G)) (hS : va_S (zB G) s.heap H locs)
    (kk : ∀ (r : Option Value) (ah' : zH) (sz' : Nat) (H1 : Heap) (locs1 : List Loc), Q r ah' sz' → zA G sz' ah' H1 → va_S (zB G) s.heap H1 locs1 → W p l e R s m args below meth c H1 locs1 (cn + mc) (sn + ms) (F s args below) (F0 m (pc + 3) ls (r.toList ++ rest))) :
    W p l e R s m args below meth c H locs cn sn (F s args below) (F0 m pc ls st0) := by
  intro T hT X
  obtain ⟨v, st₀, t, T', L, h0, X', hL, e1, e2, ⟨⟨r, ah', sz', hv, hq, hA'⟩, hz, hk⟩, st⟩ := hr T hT X
  cases hv
  rw [h0] at hz hk
  obtain ⟨t2, a1, b1⟩ := kk v ah' sz' T'.heap (locs ++ L) hq (by rw [e1]; exact hA')
    ⟨Nat.le_trans hS.1 (by rw [e1]; exact hz), fun q h1 h2 => by rw [e1, hk q (Nat.lt_of_lt_of_le h1 hS.1) h2]; exact hS.2.1 q h1 h2, fun q hq => by
      rcases List.mem_append.mp hq with h | h
      · exact hS.2.2 q h
      · exact hL q h⟩ T' rfl X'
  exact ⟨t2, st t2 a1, b1⟩
theorem lw_good : GoodIn lw_gd lw_gd := fun w h => ⟨h, good_of_word (List.mem_filter.mp h).2⟩
/-- a call's link, but for its kind -/
def zLk (own : String) (index : Nat) (M' : zM) (n : Nat) : Prop := Cond.code M'.2.1 (zcd M') (zml M') (zrt M') ∈ lw_gd ∧ Cond.initialized M'.2.1.cls ∈ lw_gd ∧ (M'.2.1.cls ≠ "java/lang/invoke/MethodHandle" ∧ M'.2.1.cls ≠ "java/lang/invoke/VarHandle" ∧ (parseMethodDescriptor M'.2.1.desc).map (fun d => d.parameters.length) = some n)
def zLV (own : String) (index : Nat) (M' : zM) (ci n : Nat) : Prop := zLk own index M' n ∧ Cond.methodLink own index M'.2.1 ∈ lw_gd ∧ Cond.instanceMethod M'.2.1 ∈ lw_gd ∧ Cond.selects M'.2.1.cls M'.2.1 M'.2.1 ∈ lw_gd ∧ (vwCl[ci]?).map (·.1) = some M'.2.1.cls
def zLS (own : String) (index : Nat) (M' : zM) (n : Nat) : Prop := zLk own index M' n ∧ Cond.methodLink own index M'.2.1 ∈ lw_gd ∧ Cond.static M'.2.1 ∈ lw_gd
def zLI (own : String) (index : Nat) (M' : zM) (n : Nat) : Prop := zLk own index M' n ∧ (Cond.methodLink own index M'.2.1 ∈ lw_gd ∨ ∃ host, Cond.methodLinkNest own index M'.2.1 host ∈ lw_tbl) ∧ Cond.instanceMethod M'.2.1 ∈ lw_gd ∧ M'.2.1.name = "<init>" ∧ zrt M' = none
theorem zGoodC {M' : zM} (h : Cond.code M'.2.1 (zcd M') (zml M') (zrt M') ∈ lw_gd) : GoodIn lw_gd (Cond.code M'.2.1 (zcd M') (zml M') (zrt M') :: lw_gd) := fun w hw => by
  rcases List.mem_cons.mp hw with rfl | hw
  · exact lw_good _ h
  · exact lw_good _ hw
theorem zK.call {p : Program} {s U : State} {m : MethodId} {args : Array Value} {meth : Method} {c : Code} {H : Heap} {locs : List Loc} (X : zX G M p s m args meth c) (hS : va_S (zB G) s.heap H locs) (hU : U.heap = H) (hW : s.WarmedH U.vm) : zK G U U.heap := by
  rw [hU]
  exact (X.2.2.2.2.2.2.2.2.kept hS.1 hS.2.1).warm hW
abbrev zRR (R : Room) (M' : zM) (d' mc ms cn sn : Nat) : Prop := (d' + 1 ≤ R.frames ∧ 8 + (zml M' + 11) + 40 * d' ≤ R.locals) ∧ cn + mc ≤ R.cells ∧ sn + ms ≤ R.slots
theorem z_callV {M' : zM} {d' mc ms n ci index b : Nat} {fs As rest : List Value} {Q : zPost} (hlk : zLV M.1 index M' ci n) (hc : zC G M' d' mc ms (.ref b :: As) ah sz Q) (hb : ah b = some (.inr (ci, fs))) (hd : decode (zcd M) pc = .ok (.invokevirtual index, 3)) (hst : st = As.reverse ++ .ref b :: rest) (hn : As.length = n) (hro : (rest.map fun v => v.category).sum ≤ 8) (hR : zRR R M' d' mc ms cn sn)
    (k : ∀ (r : Option Value) (ah' : zH) (sz' : Nat), Q r ah' sz' → zW G M R F (cn + mc) (sn + ms) (pc + 3) lv (r.toList ++ rest) ah' sz') : zW G M R F cn sn pc lv st ah sz := by
  intro p l e s m args below meth c H locs ls X hA hS hL
  obtain ⟨⟨h1, h2, h3⟩, h4, h5, h6, h7⟩ := hlk
  have ok : ∀ w ∈ lw_gd, w.before args s = true := X.2.2.2.2.2.1
  have cb := callB_of (R := R) (own := M.1) (index := index) (y := M'.2.1) (bytes := zcd M') (maxL := zml M') (ret := zrt M') (rm := zRm d' mc ms) (mc := mc) (ms := ms) n ok (zGoodC h1) rfl rfl rfl (ok _ h2) (ok _ h4) h3 hR.1
  obtain ⟨r, g1, cell, g2, g3, g4, -⟩ := (hA.2 b _ hb).2
  have hr : r.1 = M'.2.1.cls := by rw [g1] at h7; exact Option.some.inj h7
  have hrc : ∃ cellB : Cell, H[b]? = some cellB ∧ cellB.vm.isStatics = false ∧ s.vm.findClass M'.2.1.cls = some cellB.cls := ⟨cell, g2, by rw [g4]; rfl, by rw [g3, ← hr]; exact (X.2.2.2.2.2.2.2.2.1.1 ci r g1).2.1⟩
  refine z_goes (M' := M') (d' := d') (va_runV (As := As) (rest := rest) ⟨X.1, X.2.1, X.2.2.2.1, X.2.2.2.2.1, ok⟩ (hc l) ⟨cb, ok _ h5, ok _ h6⟩ ⟨zPc_blind, hrc, fun U hU hW => ⟨rfl, by rw [hU]; exact hA, zK.call X hS hU hW⟩⟩ rfl hn hL.1 hst (lv_room hro) hd hR.2) hS (fun r ah' sz' H1 locs1 hq hA1 hS1 => ?_)
  exact k r ah' sz' hq p l e s m args below meth c H1 locs1 ls X hA1 hS1 hL
theorem z_callVS {M' : zM} {d' n i index : Nat} {As rest : List Value} {Q : zPost} (hi : i < 7) (hcl : M'.2.1.cls = "java/lang/String") (hlk : zLk M.1 index M' n ∧ Cond.methodLink M.1 index M'.2.1 ∈ lw_gd ∧ Cond.instanceMethod M'.2.1 ∈ lw_gd ∧ Cond.selects M'.2.1.cls M'.2.1 M'.2.1 ∈ lw_gd) (hc : zC G M' d' 0 0 (.ref (zsK G i) :: As) ah sz Q) (hd : decode (zcd M) pc = .ok (.invokevirtual index, 3)) (hst : st = As.reverse ++ .ref (zsK G i) :: rest) (hn : As.length = n) (hro : (rest.map fun v => v.category).sum ≤ 8) (hR : zRR R M' d' 0 0 cn sn)
    (k : ∀ (r : Option Value) (ah' : zH) (sz' : Nat), Q r ah' sz' → zW G M R F cn sn (pc + 3) lv (r.toList ++ rest) ah' sz') : zW G M R F cn sn pc lv st ah sz := by
  intro p l e s m args below meth c H locs ls X hA hS hL
  obtain ⟨⟨h1, h2, h3⟩, h4, h5, h6⟩ := hlk
  have ok : ∀ w ∈ lw_gd, w.before args s = true := X.2.2.2.2.2.1
  have cb := callB_of (R := R) (own := M.1) (index := index) (y := M'.2.1) (bytes := zcd M') (maxL := zml M') (ret := zrt M') (rm := zRm d' 0 0) (mc := 0) (ms := 0) n ok (zGoodC h1) rfl rfl rfl (ok _ h2) (ok _ h4) h3 hR.1
  have hrc : ∃ cellB : Cell, H[zsK G i]? = some cellB ∧ cellB.vm.isStatics = false ∧ s.vm.findClass M'.2.1.cls = some cellB.cls := by rw [hcl]; exact vk_recv X.2.2.2.2.2.2.2.2.2.2.1 hi hS
  refine z_goes (M' := M') (d' := d') (va_runV (As := As) (rest := rest) ⟨X.1, X.2.1, X.2.2.2.1, X.2.2.2.2.1, ok⟩ (hc l) ⟨cb, ok _ h5, ok _ h6⟩ ⟨zPc_blind, hrc, fun U hU hW => ⟨rfl, by rw [hU]; exact hA, zK.call X hS hU hW⟩⟩ rfl hn hL.1 hst (lv_room hro) hd hR.2) hS (fun r ah' sz' H1 locs1 hq hA1 hS1 => ?_)
  exact k r ah' sz' hq p l e s m args below meth c H1 locs1 ls X hA1 hS1 hL
theorem z_callS {M' : zM} {d' mc ms n index : Nat} {As rest : List Value} {Q : zPost} (hlk : zLS M.1 index M' n) (hc : zC G M' d' mc ms As ah sz Q) (hd : decode (zcd M) pc = .ok (.invokestatic index, 3)) (hst : st = As.reverse ++ rest) (hn : As.length = n) (hro : (rest.map fun v => v.category).sum ≤ 8) (hR : zRR R M' d' mc ms cn sn)
    (k : ∀ (r : Option Value) (ah' : zH) (sz' : Nat), Q r ah' sz' → zW G M R F (cn + mc) (sn + ms) (pc + 3) lv (r.toList ++ rest) ah' sz') : zW G M R F cn sn pc lv st ah sz := by
  intro p l e s m args below meth c H locs ls X hA hS hL
  obtain ⟨⟨h1, h2, h3⟩, h4, h5⟩ := hlk
  have ok : ∀ w ∈ lw_gd, w.before args s = true := X.2.2.2.2.2.1
  have cb := callB_of (R := R) (own := M.1) (index := index) (y := M'.2.1) (bytes := zcd M') (maxL := zml M') (ret := zrt M') (rm := zRm d' mc ms) (mc := mc) (ms := ms) n ok (zGoodC h1) rfl rfl rfl (ok _ h2) (ok _ h4) h3 hR.1
  refine z_goes (M' := M') (d' := d') (va_runS (As := As) (rest := rest) ⟨X.1, X.2.1, X.2.2.2.1, X.2.2.2.2.1, ok⟩ (hc l) ⟨cb, ok _ h5⟩ ⟨zPc_blind, fun U hU hW => ⟨rfl, by rw [hU]; exact hA, zK.call X hS hU hW⟩⟩ rfl hn hL.1 hst (lv_room hro) hd hR.2) hS (fun r ah' sz' H1 locs1 hq hA1 hS1 => ?_)
  exact k r ah' sz' hq p l e s m args below meth c H1 locs1 ls X hA1 hS1 hL
theorem z_callI {M' : zM} {d' mc ms n index b : Nat} {As rest : List Value} {Q : zPost} (hlk : zLI M.1 index M' n) (hc : zC G M' d' mc ms (.ref b :: As) ah sz Q) (hd : decode (zcd M) pc = .ok (.invokespecial index, 3)) (hst : st = As.reverse ++ .ref b :: rest) (hn : As.length = n) (hro : (rest.map fun v => v.category).sum ≤ 8) (hR : zRR R M' d' mc ms cn sn)
    (k : ∀ (r : Option Value) (ah' : zH) (sz' : Nat), Q r ah' sz' → zW G M R F (cn + mc) (sn + ms) (pc + 3) lv (r.toList ++ rest) ah' sz') : zW G M R F cn sn pc lv st ah sz := by
  intro p l e s m args below meth c H locs ls X hA hS hL
  obtain ⟨⟨h1, h2, h3⟩, h4, h5, h6, h7⟩ := hlk
  have ok : ∀ w ∈ lw_gd, w.before args s = true := X.2.2.2.2.2.1
  have hc' := hc l
  rw [h7] at hc' h1
  have hG : GoodIn lw_gd (Cond.code M'.2.1 (zcd M') (zml M') none :: lw_gd) := fun w hw => by
    rcases List.mem_cons.mp hw with rfl | hw
    · exact lw_good _ h1
    · exact lw_good _ hw
  rcases h4 with h4 | ⟨host, h4⟩
  · have cb := callB_of (R := R) (own := M.1) (index := index) (y := M'.2.1) (bytes := zcd M') (maxL := zml M') (ret := none) (rm := zRm d' mc ms) (mc := mc) (ms := ms) n ok hG rfl rfl rfl (ok _ h2) (ok _ h4) h3 hR.1
    refine z_goes (M' := M') (d' := d') (va_runI (As := As) (rest := rest) ⟨X.1, X.2.1, X.2.2.2.1, X.2.2.2.2.1, ok⟩ hc' ⟨cb, h6, ok _ h5⟩ ⟨zPc_blind, fun U hU hW => ⟨rfl, by rw [hU]; exact hA, zK.call X hS hU hW⟩⟩ rfl hn hL.1 hst (lv_room hro) hd hR.2) hS (fun r ah' sz' H1 locs1 hq hA1 hS1 => ?_)
    exact k r ah' sz' hq p l e s m args below meth c H1 locs1 ls X hA1 hS1 hL
  · have cb := va_cnB (R := R) (own := M.1) (host := host) (index := index) (y := M'.2.1) (bytes := zcd M') (maxL := zml M') (ret := none) (rm := zRm d' mc ms) (mc := mc) (ms := ms) n ok hG rfl rfl rfl (zXn X h4 rfl) (ok _ h2) h3 hR.1
    refine z_goes (M' := M') (d' := d') (va_runIN (As := As) (rest := rest) ⟨X.1, X.2.1, X.2.2.2.1, X.2.2.2.2.1, ok⟩ hc' ⟨cb, h6, ok _ h5⟩ ⟨zPc_blind, fun U hU hW => ⟨rfl, by rw [hU]; exact hA, zK.call X hS hU hW⟩⟩ rfl hn hL.1 hst (lv_room hro) hd hR.2) hS (fun r ah' sz' H1 locs1 hq hA1 hS1 => ?_)
    exact k r ah' sz' hq p l e s m args below meth c H1 locs1 ls X hA1 hS1 hL
theorem z_callV1 {M' : zM} {d' n ci index b : Nat} {fs As rest : List Value} {v : Value} {ah' : zH} (hlk : zLV M.1 index M' ci n) (hc : zCe G M' d' (.ref b :: As) ah sz (some v) ah') (hb : ah b = some (.inr (ci, fs))) (hd : decode (zcd M) pc = .ok (.invokevirtual index, 3)) (hst : st = As.reverse ++ .ref b :: rest) (hn : As.length = n) (hro : (rest.map fun v => v.category).sum ≤ 8) (hR : zRR R M' d' 0 0 cn sn)
    (k : zW G M R F cn sn (pc + 3) lv (v :: rest) ah' sz) : zW G M R F cn sn pc lv st ah sz :=
  z_callV hlk hc hb hd hst hn hro hR (fun r a z q => by obtain ⟨rfl, rfl, rfl⟩ := q; exact k)
theorem z_callV0 {M' : zM} {d' n ci index b : Nat} {fs As rest : List Value} {ah' : zH} (hlk : zLV M.1 index M' ci n) (hc : zCe G M' d' (.ref b :: As) ah sz none ah') (hb : ah b = some (.inr (ci, fs))) (hd : decode (zcd M) pc = .ok (.invokevirtual index, 3)) (hst : st = As.reverse ++ .ref b :: rest) (hn : As.length = n) (hro : (rest.map fun v => v.category).sum ≤ 8) (hR : zRR R M' d' 0 0 cn sn)
    (k : zW G M R F cn sn (pc + 3) lv (rest) ah' sz) : zW G M R F cn sn pc lv st ah sz :=
  z_callV hlk hc hb hd hst hn hro hR (fun r a z q => by obtain ⟨rfl, rfl, rfl⟩ := q; exact k)
theorem z_callS1 {M' : zM} {d' n index : Nat} {As rest : List Value} {v : Value} {ah' : zH} (hlk : zLS M.1 index M' n) (hc : zCe G M' d' As ah sz (some v) ah') (hd : decode (zcd M) pc = .ok (.invokestatic index, 3)) (hst : st = As.reverse ++ rest) (hn : As.length = n) (hro : (rest.map fun v => v.category).sum ≤ 8) (hR : zRR R M' d' 0 0 cn sn)
    (k : zW G M R F cn sn (pc + 3) lv (v :: rest) ah' sz) : zW G M R F cn sn pc lv st ah sz :=
  z_callS hlk hc hd hst hn hro hR (fun r a z q => by obtain ⟨rfl, rfl, rfl⟩ := q; exact k)
theorem z_callS0 {M' : zM} {d' n index : Nat} {As rest : List Value} {ah' : zH} (hlk : zLS M.1 index M' n) (hc : zCe G M' d' As ah sz none ah') (hd : decode (zcd M) pc = .ok (.invokestatic index, 3)) (hst : st = As.reverse ++ rest) (hn : As.length = n) (hro : (rest.map fun v => v.category).sum ≤ 8) (hR : zRR R M' d' 0 0 cn sn)
    (k : zW G M R F cn sn (pc + 3) lv (rest) ah' sz) : zW G M R F cn sn pc lv st ah sz :=
  z_callS hlk hc hd hst hn hro hR (fun r a z q => by obtain ⟨rfl, rfl, rfl⟩ := q; exact k)
theorem z_callI0 {M' : zM} {d' n index b : Nat} {As rest : List Value} {ah' : zH} (hlk : zLI M.1 index M' n) (hc : zCe G M' d' (.ref b :: As) ah sz none ah') (hd : decode (zcd M) pc = .ok (.invokespecial index, 3)) (hst : st = As.reverse ++ .ref b :: rest) (hn : As.length = n) (hro : (rest.map fun v => v.category).sum ≤ 8) (hR : zRR R M' d' 0 0 cn sn)
    (k : zW G M R F cn sn (pc + 3) lv (rest) ah' sz) : zW G M R F cn sn pc lv st ah sz :=
  z_callI hlk hc hd hst hn hro hR (fun r a z q => by obtain ⟨rfl, rfl, rfl⟩ := q; exact k)
end ZR
end
