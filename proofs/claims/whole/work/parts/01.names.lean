-- ===== PART A: goes FIRST, ahead of the names: the tables' words, and 'selects' of the private methods out of them =====
/-- a private method of a class that the tables say can be made, by its rows of tables_1 -/
def lw_okq (q : MethodName × Nat) : Prop := (q.1.cls ≠ "java/lang/invoke/MethodHandle" ∧ q.1.cls ≠ "java/lang/invoke/VarHandle") ∧ Cond.instantiable q.1.cls q.2 ∈ tables_1 ∧ Cond.privateMethod q.1 ∈ tables_1 ∧ Cond.instanceMethod q.1 ∈ tables_1
theorem lw_p0 : lw_okq (⟨"RunColumns$Rows", "putLast", "(II)V"⟩, 2) := ⟨⟨by decide +kernel, by decide +kernel⟩, List.mem_of_getElem? (i := 35) (by decide +kernel), List.mem_of_getElem? (i := 284) (by decide +kernel), List.mem_of_getElem? (i := 285) (by decide +kernel)⟩
theorem lw_p1 : lw_okq (⟨"RunColumns$Reader", "readEither", "(LRunColumns$Query;I)V"⟩, 4) := ⟨⟨by decide +kernel, by decide +kernel⟩, List.mem_of_getElem? (i := 116) (by decide +kernel), List.mem_of_getElem? (i := 389) (by decide +kernel), List.mem_of_getElem? (i := 390) (by decide +kernel)⟩
theorem lw_p2 : lw_okq (⟨"RunColumns$Reader", "readBoth", "(LRunColumns$Query;I)V"⟩, 4) := ⟨⟨by decide +kernel, by decide +kernel⟩, List.mem_of_getElem? (i := 116) (by decide +kernel), List.mem_of_getElem? (i := 393) (by decide +kernel), List.mem_of_getElem? (i := 394) (by decide +kernel)⟩
theorem lw_p3 : lw_okq (⟨"RunColumns$Reader", "readFactor", "(LRunColumns$Query;I)V"⟩, 4) := ⟨⟨by decide +kernel, by decide +kernel⟩, List.mem_of_getElem? (i := 116) (by decide +kernel), List.mem_of_getElem? (i := 397) (by decide +kernel), List.mem_of_getElem? (i := 398) (by decide +kernel)⟩
theorem lw_p4 : lw_okq (⟨"RunColumns$Reader", "isWordAt", "(ILjava/lang/String;)Z"⟩, 4) := ⟨⟨by decide +kernel, by decide +kernel⟩, List.mem_of_getElem? (i := 116) (by decide +kernel), List.mem_of_getElem? (i := 402) (by decide +kernel), List.mem_of_getElem? (i := 403) (by decide +kernel)⟩
theorem lw_p5 : lw_okq (⟨"RunColumns$Reader", "signAt", "(I)I"⟩, 4) := ⟨⟨by decide +kernel, by decide +kernel⟩, List.mem_of_getElem? (i := 116) (by decide +kernel), List.mem_of_getElem? (i := 416) (by decide +kernel), List.mem_of_getElem? (i := 417) (by decide +kernel)⟩
theorem lw_p6 : lw_okq (⟨"RunColumns$Reader", "blame", "(I)V"⟩, 4) := ⟨⟨by decide +kernel, by decide +kernel⟩, List.mem_of_getElem? (i := 116) (by decide +kernel), List.mem_of_getElem? (i := 461) (by decide +kernel), List.mem_of_getElem? (i := 462) (by decide +kernel)⟩
theorem lw_p7 : lw_okq (⟨"RunColumns$Reader", "passWord", "(Ljava/lang/String;)V"⟩, 4) := ⟨⟨by decide +kernel, by decide +kernel⟩, List.mem_of_getElem? (i := 116) (by decide +kernel), List.mem_of_getElem? (i := 465) (by decide +kernel), List.mem_of_getElem? (i := 466) (by decide +kernel)⟩
theorem lw_p8 : lw_okq (⟨"RunColumns$Reader", "pass", "(C)V"⟩, 4) := ⟨⟨by decide +kernel, by decide +kernel⟩, List.mem_of_getElem? (i := 116) (by decide +kernel), List.mem_of_getElem? (i := 469) (by decide +kernel), List.mem_of_getElem? (i := 470) (by decide +kernel)⟩
theorem lw_p9 : lw_okq (⟨"RunColumns$Reader", "passClosing", "()V"⟩, 4) := ⟨⟨by decide +kernel, by decide +kernel⟩, List.mem_of_getElem? (i := 116) (by decide +kernel), List.mem_of_getElem? (i := 481) (by decide +kernel), List.mem_of_getElem? (i := 482) (by decide +kernel)⟩
theorem lw_p10 : lw_okq (⟨"RunColumns$Reader", "blameWhatFollows", "()V"⟩, 4) := ⟨⟨by decide +kernel, by decide +kernel⟩, List.mem_of_getElem? (i := 116) (by decide +kernel), List.mem_of_getElem? (i := 485) (by decide +kernel), List.mem_of_getElem? (i := 486) (by decide +kernel)⟩
theorem lw_p11 : lw_okq (⟨"RunColumns$Reader", "readQuestion", "(LRunColumns$Query;)V"⟩, 4) := ⟨⟨by decide +kernel, by decide +kernel⟩, List.mem_of_getElem? (i := 116) (by decide +kernel), List.mem_of_getElem? (i := 491) (by decide +kernel), List.mem_of_getElem? (i := 492) (by decide +kernel)⟩
theorem lw_p12 : lw_okq (⟨"RunColumns$Reader", "passColumn", "()I"⟩, 4) := ⟨⟨by decide +kernel, by decide +kernel⟩, List.mem_of_getElem? (i := 116) (by decide +kernel), List.mem_of_getElem? (i := 495) (by decide +kernel), List.mem_of_getElem? (i := 496) (by decide +kernel)⟩
theorem lw_p13 : lw_okq (⟨"RunColumns$Reader", "passValue", "()I"⟩, 4) := ⟨⟨by decide +kernel, by decide +kernel⟩, List.mem_of_getElem? (i := 116) (by decide +kernel), List.mem_of_getElem? (i := 502) (by decide +kernel), List.mem_of_getElem? (i := 503) (by decide +kernel)⟩
theorem lw_p14 : lw_okq (⟨"RunColumns$Reader", "isJoinedBy", "(Ljava/lang/String;)Z"⟩, 4) := ⟨⟨by decide +kernel, by decide +kernel⟩, List.mem_of_getElem? (i := 116) (by decide +kernel), List.mem_of_getElem? (i := 510) (by decide +kernel), List.mem_of_getElem? (i := 511) (by decide +kernel)⟩
theorem lw_p15 : lw_okq (⟨"RunColumns$Reader", "passJoin", "(Ljava/lang/String;)V"⟩, 4) := ⟨⟨by decide +kernel, by decide +kernel⟩, List.mem_of_getElem? (i := 116) (by decide +kernel), List.mem_of_getElem? (i := 514) (by decide +kernel), List.mem_of_getElem? (i := 515) (by decide +kernel)⟩
def lw_privs_1 : List (MethodName × Nat) := [(⟨"RunColumns$Rows", "putLast", "(II)V"⟩, 2), (⟨"RunColumns$Reader", "readEither", "(LRunColumns$Query;I)V"⟩, 4), (⟨"RunColumns$Reader", "readBoth", "(LRunColumns$Query;I)V"⟩, 4), (⟨"RunColumns$Reader", "readFactor", "(LRunColumns$Query;I)V"⟩, 4), (⟨"RunColumns$Reader", "isWordAt", "(ILjava/lang/String;)Z"⟩, 4), (⟨"RunColumns$Reader", "signAt", "(I)I"⟩, 4), (⟨"RunColumns$Reader", "blame", "(I)V"⟩, 4), (⟨"RunColumns$Reader", "passWord", "(Ljava/lang/String;)V"⟩, 4), (⟨"RunColumns$Reader", "pass", "(C)V"⟩, 4), (⟨"RunColumns$Reader", "passClosing", "()V"⟩, 4), (⟨"RunColumns$Reader", "blameWhatFollows", "()V"⟩, 4), (⟨"RunColumns$Reader", "readQuestion", "(LRunColumns$Query;)V"⟩, 4), (⟨"RunColumns$Reader", "passColumn", "()I"⟩, 4), (⟨"RunColumns$Reader", "passValue", "()I"⟩, 4), (⟨"RunColumns$Reader", "isJoinedBy", "(Ljava/lang/String;)Z"⟩, 4), (⟨"RunColumns$Reader", "passJoin", "(Ljava/lang/String;)V"⟩, 4)]
theorem lw_r1 : ∀ q ∈ lw_privs_1, lw_okq q := List.forall_mem_cons.mpr ⟨lw_p0, List.forall_mem_cons.mpr ⟨lw_p1, List.forall_mem_cons.mpr ⟨lw_p2, List.forall_mem_cons.mpr ⟨lw_p3, List.forall_mem_cons.mpr ⟨lw_p4, List.forall_mem_cons.mpr ⟨lw_p5, List.forall_mem_cons.mpr ⟨lw_p6, List.forall_mem_cons.mpr ⟨lw_p7, List.forall_mem_cons.mpr ⟨lw_p8, List.forall_mem_cons.mpr ⟨lw_p9, List.forall_mem_cons.mpr ⟨lw_p10, List.forall_mem_cons.mpr ⟨lw_p11, List.forall_mem_cons.mpr ⟨lw_p12, List.forall_mem_cons.mpr ⟨lw_p13, List.forall_mem_cons.mpr ⟨lw_p14, List.forall_mem_cons.mpr ⟨lw_p15, fun _ h => absurd h List.not_mem_nil⟩⟩⟩⟩⟩⟩⟩⟩⟩⟩⟩⟩⟩⟩⟩⟩
theorem lw_p16 : lw_okq (⟨"RunColumns", "isQuery", "(I)Z"⟩, 12) := ⟨⟨by decide +kernel, by decide +kernel⟩, List.mem_of_getElem? (i := 21) (by decide +kernel), List.mem_of_getElem? (i := 523) (by decide +kernel), List.mem_of_getElem? (i := 524) (by decide +kernel)⟩
theorem lw_p17 : lw_okq (⟨"RunColumns$Work", "turn", "(LRunColumns$Rows;)V"⟩, 4) := ⟨⟨by decide +kernel, by decide +kernel⟩, List.mem_of_getElem? (i := 141) (by decide +kernel), List.mem_of_getElem? (i := 531) (by decide +kernel), List.mem_of_getElem? (i := 532) (by decide +kernel)⟩
theorem lw_p18 : lw_okq (⟨"RunColumns$Work", "join", "(ILRunColumns$Rows;)V"⟩, 4) := ⟨⟨by decide +kernel, by decide +kernel⟩, List.mem_of_getElem? (i := 141) (by decide +kernel), List.mem_of_getElem? (i := 540) (by decide +kernel), List.mem_of_getElem? (i := 541) (by decide +kernel)⟩
theorem lw_p19 : lw_okq (⟨"RunColumns$Work", "ask", "(LRunColumns$Query;ILRunColumns$Rows;)V"⟩, 4) := ⟨⟨by decide +kernel, by decide +kernel⟩, List.mem_of_getElem? (i := 141) (by decide +kernel), List.mem_of_getElem? (i := 556) (by decide +kernel), List.mem_of_getElem? (i := 557) (by decide +kernel)⟩
theorem lw_p20 : lw_okq (⟨"RunColumns", "resultOf", "(I)LRunColumns$Bits;"⟩, 12) := ⟨⟨by decide +kernel, by decide +kernel⟩, List.mem_of_getElem? (i := 21) (by decide +kernel), List.mem_of_getElem? (i := 603) (by decide +kernel), List.mem_of_getElem? (i := 604) (by decide +kernel)⟩
theorem lw_p21 : lw_okq (⟨"RunColumns$State", "tryStep", "(IILRunColumns$Rows;)V"⟩, 6) := ⟨⟨by decide +kernel, by decide +kernel⟩, List.mem_of_getElem? (i := 29) (by decide +kernel), List.mem_of_getElem? (i := 709) (by decide +kernel), List.mem_of_getElem? (i := 710) (by decide +kernel)⟩
theorem lw_p22 : lw_okq (⟨"RunColumnsModel", "comes", "(IIII)I"⟩, 23) := ⟨⟨by decide +kernel, by decide +kernel⟩, List.mem_of_getElem? (i := 809) (by decide +kernel), List.mem_of_getElem? (i := 894) (by decide +kernel), List.mem_of_getElem? (i := 895) (by decide +kernel)⟩
theorem lw_p23 : lw_okq (⟨"RunColumnsModel", "isRow", "(I)Z"⟩, 23) := ⟨⟨by decide +kernel, by decide +kernel⟩, List.mem_of_getElem? (i := 809) (by decide +kernel), List.mem_of_getElem? (i := 902) (by decide +kernel), List.mem_of_getElem? (i := 903) (by decide +kernel)⟩
theorem lw_p24 : lw_okq (⟨"RunColumnsModel", "runsOf", "(II)I"⟩, 23) := ⟨⟨by decide +kernel, by decide +kernel⟩, List.mem_of_getElem? (i := 809) (by decide +kernel), List.mem_of_getElem? (i := 918) (by decide +kernel), List.mem_of_getElem? (i := 919) (by decide +kernel)⟩
theorem lw_p25 : lw_okq (⟨"RunColumnsModel", "bit", "(III)Z"⟩, 23) := ⟨⟨by decide +kernel, by decide +kernel⟩, List.mem_of_getElem? (i := 809) (by decide +kernel), List.mem_of_getElem? (i := 922) (by decide +kernel), List.mem_of_getElem? (i := 923) (by decide +kernel)⟩
theorem lw_p26 : lw_okq (⟨"RunColumnsModel", "isOnes", "(III)Z"⟩, 23) := ⟨⟨by decide +kernel, by decide +kernel⟩, List.mem_of_getElem? (i := 809) (by decide +kernel), List.mem_of_getElem? (i := 930) (by decide +kernel), List.mem_of_getElem? (i := 931) (by decide +kernel)⟩
theorem lw_p27 : lw_okq (⟨"RunColumnsModel", "either", "(I)I"⟩, 23) := ⟨⟨by decide +kernel, by decide +kernel⟩, List.mem_of_getElem? (i := 809) (by decide +kernel), List.mem_of_getElem? (i := 942) (by decide +kernel), List.mem_of_getElem? (i := 943) (by decide +kernel)⟩
theorem lw_p28 : lw_okq (⟨"RunColumnsModel", "both", "(I)I"⟩, 23) := ⟨⟨by decide +kernel, by decide +kernel⟩, List.mem_of_getElem? (i := 809) (by decide +kernel), List.mem_of_getElem? (i := 946) (by decide +kernel), List.mem_of_getElem? (i := 947) (by decide +kernel)⟩
theorem lw_p29 : lw_okq (⟨"RunColumnsModel", "factor", "(I)I"⟩, 23) := ⟨⟨by decide +kernel, by decide +kernel⟩, List.mem_of_getElem? (i := 809) (by decide +kernel), List.mem_of_getElem? (i := 950) (by decide +kernel), List.mem_of_getElem? (i := 951) (by decide +kernel)⟩
theorem lw_p30 : lw_okq (⟨"RunColumnsModel", "signAt", "(I)I"⟩, 23) := ⟨⟨by decide +kernel, by decide +kernel⟩, List.mem_of_getElem? (i := 809) (by decide +kernel), List.mem_of_getElem? (i := 954) (by decide +kernel), List.mem_of_getElem? (i := 955) (by decide +kernel)⟩
theorem lw_p31 : lw_okq (⟨"RunColumnsModel", "wrong", "(I)V"⟩, 23) := ⟨⟨by decide +kernel, by decide +kernel⟩, List.mem_of_getElem? (i := 809) (by decide +kernel), List.mem_of_getElem? (i := 958) (by decide +kernel), List.mem_of_getElem? (i := 959) (by decide +kernel)⟩
def lw_privs_2 : List (MethodName × Nat) := [(⟨"RunColumns", "isQuery", "(I)Z"⟩, 12), (⟨"RunColumns$Work", "turn", "(LRunColumns$Rows;)V"⟩, 4), (⟨"RunColumns$Work", "join", "(ILRunColumns$Rows;)V"⟩, 4), (⟨"RunColumns$Work", "ask", "(LRunColumns$Query;ILRunColumns$Rows;)V"⟩, 4), (⟨"RunColumns", "resultOf", "(I)LRunColumns$Bits;"⟩, 12), (⟨"RunColumns$State", "tryStep", "(IILRunColumns$Rows;)V"⟩, 6), (⟨"RunColumnsModel", "comes", "(IIII)I"⟩, 23), (⟨"RunColumnsModel", "isRow", "(I)Z"⟩, 23), (⟨"RunColumnsModel", "runsOf", "(II)I"⟩, 23), (⟨"RunColumnsModel", "bit", "(III)Z"⟩, 23), (⟨"RunColumnsModel", "isOnes", "(III)Z"⟩, 23), (⟨"RunColumnsModel", "either", "(I)I"⟩, 23), (⟨"RunColumnsModel", "both", "(I)I"⟩, 23), (⟨"RunColumnsModel", "factor", "(I)I"⟩, 23), (⟨"RunColumnsModel", "signAt", "(I)I"⟩, 23), (⟨"RunColumnsModel", "wrong", "(I)V"⟩, 23)]
theorem lw_r2 : ∀ q ∈ lw_privs_2, lw_okq q := List.forall_mem_cons.mpr ⟨lw_p16, List.forall_mem_cons.mpr ⟨lw_p17, List.forall_mem_cons.mpr ⟨lw_p18, List.forall_mem_cons.mpr ⟨lw_p19, List.forall_mem_cons.mpr ⟨lw_p20, List.forall_mem_cons.mpr ⟨lw_p21, List.forall_mem_cons.mpr ⟨lw_p22, List.forall_mem_cons.mpr ⟨lw_p23, List.forall_mem_cons.mpr ⟨lw_p24, List.forall_mem_cons.mpr ⟨lw_p25, List.forall_mem_cons.mpr ⟨lw_p26, List.forall_mem_cons.mpr ⟨lw_p27, List.forall_mem_cons.mpr ⟨lw_p28, List.forall_mem_cons.mpr ⟨lw_p29, List.forall_mem_cons.mpr ⟨lw_p30, List.forall_mem_cons.mpr ⟨lw_p31, fun _ h => absurd h List.not_mem_nil⟩⟩⟩⟩⟩⟩⟩⟩⟩⟩⟩⟩⟩⟩⟩⟩
theorem lw_p32 : lw_okq (⟨"RunColumnsModel", "must", "(I)V"⟩, 23) := ⟨⟨by decide +kernel, by decide +kernel⟩, List.mem_of_getElem? (i := 809) (by decide +kernel), List.mem_of_getElem? (i := 962) (by decide +kernel), List.mem_of_getElem? (i := 963) (by decide +kernel)⟩
theorem lw_p33 : lw_okq (⟨"RunColumnsModel", "word", "()I"⟩, 23) := ⟨⟨by decide +kernel, by decide +kernel⟩, List.mem_of_getElem? (i := 809) (by decide +kernel), List.mem_of_getElem? (i := 966) (by decide +kernel), List.mem_of_getElem? (i := 967) (by decide +kernel)⟩
theorem lw_p34 : lw_okq (⟨"RunColumnsModel", "wordEnd", "()I"⟩, 23) := ⟨⟨by decide +kernel, by decide +kernel⟩, List.mem_of_getElem? (i := 809) (by decide +kernel), List.mem_of_getElem? (i := 970) (by decide +kernel), List.mem_of_getElem? (i := 971) (by decide +kernel)⟩
theorem lw_p35 : lw_okq (⟨"RunColumnsModel", "node", "(IIIIII)I"⟩, 23) := ⟨⟨by decide +kernel, by decide +kernel⟩, List.mem_of_getElem? (i := 809) (by decide +kernel), List.mem_of_getElem? (i := 975) (by decide +kernel), List.mem_of_getElem? (i := 976) (by decide +kernel)⟩
theorem lw_p36 : lw_okq (⟨"RunColumnsModel", "columnHere", "(I)I"⟩, 23) := ⟨⟨by decide +kernel, by decide +kernel⟩, List.mem_of_getElem? (i := 809) (by decide +kernel), List.mem_of_getElem? (i := 979) (by decide +kernel), List.mem_of_getElem? (i := 980) (by decide +kernel)⟩
theorem lw_p37 : lw_okq (⟨"RunColumnsModel", "value", "()I"⟩, 23) := ⟨⟨by decide +kernel, by decide +kernel⟩, List.mem_of_getElem? (i := 809) (by decide +kernel), List.mem_of_getElem? (i := 984) (by decide +kernel), List.mem_of_getElem? (i := 985) (by decide +kernel)⟩
theorem lw_p38 : lw_okq (⟨"RunColumnsModel", "follows", "(I)Z"⟩, 23) := ⟨⟨by decide +kernel, by decide +kernel⟩, List.mem_of_getElem? (i := 809) (by decide +kernel), List.mem_of_getElem? (i := 988) (by decide +kernel), List.mem_of_getElem? (i := 989) (by decide +kernel)⟩
theorem lw_p39 : lw_okq (⟨"RunColumnsModel", "isQuery", "(I)Z"⟩, 23) := ⟨⟨by decide +kernel, by decide +kernel⟩, List.mem_of_getElem? (i := 809) (by decide +kernel), List.mem_of_getElem? (i := 996) (by decide +kernel), List.mem_of_getElem? (i := 997) (by decide +kernel)⟩
theorem lw_p40 : lw_okq (⟨"RunColumnsModel", "resultMany", "(I)I"⟩, 23) := ⟨⟨by decide +kernel, by decide +kernel⟩, List.mem_of_getElem? (i := 809) (by decide +kernel), List.mem_of_getElem? (i := 1000) (by decide +kernel), List.mem_of_getElem? (i := 1001) (by decide +kernel)⟩
theorem lw_p41 : lw_okq (⟨"RunColumnsModel", "isSo", "(II)Z"⟩, 23) := ⟨⟨by decide +kernel, by decide +kernel⟩, List.mem_of_getElem? (i := 809) (by decide +kernel), List.mem_of_getElem? (i := 1004) (by decide +kernel), List.mem_of_getElem? (i := 1005) (by decide +kernel)⟩
theorem lw_p42 : lw_okq (⟨"RunColumnsModel", "resultRuns", "(I)I"⟩, 23) := ⟨⟨by decide +kernel, by decide +kernel⟩, List.mem_of_getElem? (i := 809) (by decide +kernel), List.mem_of_getElem? (i := 1008) (by decide +kernel), List.mem_of_getElem? (i := 1009) (by decide +kernel)⟩
theorem lw_p43 : lw_okq (⟨"RunColumnsModel", "cost", "(I)I"⟩, 23) := ⟨⟨by decide +kernel, by decide +kernel⟩, List.mem_of_getElem? (i := 809) (by decide +kernel), List.mem_of_getElem? (i := 1012) (by decide +kernel), List.mem_of_getElem? (i := 1013) (by decide +kernel)⟩
theorem lw_p44 : lw_okq (⟨"RunColumnsModel", "rowAt", "(II)I"⟩, 23) := ⟨⟨by decide +kernel, by decide +kernel⟩, List.mem_of_getElem? (i := 809) (by decide +kernel), List.mem_of_getElem? (i := 1016) (by decide +kernel), List.mem_of_getElem? (i := 1017) (by decide +kernel)⟩
theorem lw_p45 : lw_okq (⟨"RunColumnsModel", "sortsIn", "(IZ)I"⟩, 23) := ⟨⟨by decide +kernel, by decide +kernel⟩, List.mem_of_getElem? (i := 809) (by decide +kernel), List.mem_of_getElem? (i := 1020) (by decide +kernel), List.mem_of_getElem? (i := 1021) (by decide +kernel)⟩
theorem lw_p46 : lw_okq (⟨"RunColumnsModel", "deepOf", "(I)I"⟩, 23) := ⟨⟨by decide +kernel, by decide +kernel⟩, List.mem_of_getElem? (i := 809) (by decide +kernel), List.mem_of_getElem? (i := 1024) (by decide +kernel), List.mem_of_getElem? (i := 1025) (by decide +kernel)⟩
theorem lw_p47 : lw_okq (⟨"RunColumnsModel", "grouped", "(II)V"⟩, 23) := ⟨⟨by decide +kernel, by decide +kernel⟩, List.mem_of_getElem? (i := 809) (by decide +kernel), List.mem_of_getElem? (i := 1036) (by decide +kernel), List.mem_of_getElem? (i := 1037) (by decide +kernel)⟩
def lw_privs_3 : List (MethodName × Nat) := [(⟨"RunColumnsModel", "must", "(I)V"⟩, 23), (⟨"RunColumnsModel", "word", "()I"⟩, 23), (⟨"RunColumnsModel", "wordEnd", "()I"⟩, 23), (⟨"RunColumnsModel", "node", "(IIIIII)I"⟩, 23), (⟨"RunColumnsModel", "columnHere", "(I)I"⟩, 23), (⟨"RunColumnsModel", "value", "()I"⟩, 23), (⟨"RunColumnsModel", "follows", "(I)Z"⟩, 23), (⟨"RunColumnsModel", "isQuery", "(I)Z"⟩, 23), (⟨"RunColumnsModel", "resultMany", "(I)I"⟩, 23), (⟨"RunColumnsModel", "isSo", "(II)Z"⟩, 23), (⟨"RunColumnsModel", "resultRuns", "(I)I"⟩, 23), (⟨"RunColumnsModel", "cost", "(I)I"⟩, 23), (⟨"RunColumnsModel", "rowAt", "(II)I"⟩, 23), (⟨"RunColumnsModel", "sortsIn", "(IZ)I"⟩, 23), (⟨"RunColumnsModel", "deepOf", "(I)I"⟩, 23), (⟨"RunColumnsModel", "grouped", "(II)V"⟩, 23)]
theorem lw_r3 : ∀ q ∈ lw_privs_3, lw_okq q := List.forall_mem_cons.mpr ⟨lw_p32, List.forall_mem_cons.mpr ⟨lw_p33, List.forall_mem_cons.mpr ⟨lw_p34, List.forall_mem_cons.mpr ⟨lw_p35, List.forall_mem_cons.mpr ⟨lw_p36, List.forall_mem_cons.mpr ⟨lw_p37, List.forall_mem_cons.mpr ⟨lw_p38, List.forall_mem_cons.mpr ⟨lw_p39, List.forall_mem_cons.mpr ⟨lw_p40, List.forall_mem_cons.mpr ⟨lw_p41, List.forall_mem_cons.mpr ⟨lw_p42, List.forall_mem_cons.mpr ⟨lw_p43, List.forall_mem_cons.mpr ⟨lw_p44, List.forall_mem_cons.mpr ⟨lw_p45, List.forall_mem_cons.mpr ⟨lw_p46, List.forall_mem_cons.mpr ⟨lw_p47, fun _ h => absurd h List.not_mem_nil⟩⟩⟩⟩⟩⟩⟩⟩⟩⟩⟩⟩⟩⟩⟩⟩
theorem lw_p48 : lw_okq (⟨"RunColumnsModel", "isSeen", "(II)Z"⟩, 23) := ⟨⟨by decide +kernel, by decide +kernel⟩, List.mem_of_getElem? (i := 809) (by decide +kernel), List.mem_of_getElem? (i := 1056) (by decide +kernel), List.mem_of_getElem? (i := 1057) (by decide +kernel)⟩
theorem lw_p49 : lw_okq (⟨"RunColumnsModel", "does", "(II)V"⟩, 23) := ⟨⟨by decide +kernel, by decide +kernel⟩, List.mem_of_getElem? (i := 809) (by decide +kernel), List.mem_of_getElem? (i := 1086) (by decide +kernel), List.mem_of_getElem? (i := 1087) (by decide +kernel)⟩
def lw_privs_4 : List (MethodName × Nat) := [(⟨"RunColumnsModel", "isSeen", "(II)Z"⟩, 23), (⟨"RunColumnsModel", "does", "(II)V"⟩, 23)]
theorem lw_r4 : ∀ q ∈ lw_privs_4, lw_okq q := List.forall_mem_cons.mpr ⟨lw_p48, List.forall_mem_cons.mpr ⟨lw_p49, fun _ h => absurd h List.not_mem_nil⟩⟩
def lw_privs : List (MethodName × Nat) := lw_privs_1 ++ (lw_privs_2 ++ (lw_privs_3 ++ (lw_privs_4)))
def lw_tbl : List Cond := k2_sels lw_privs ++ tables_1
theorem lw_privs_ok : ∀ q ∈ lw_privs, lw_okq q := by
  show ∀ q ∈ lw_privs_1 ++ (lw_privs_2 ++ (lw_privs_3 ++ (lw_privs_4))), lw_okq q
  exact List.forall_mem_append.mpr ⟨lw_r1, List.forall_mem_append.mpr ⟨lw_r2, List.forall_mem_append.mpr ⟨lw_r3, lw_r4⟩⟩⟩
-- ===== end of PART A; then your names; then what follows =====
def RX0 : String := "RunColumns$Bits"
def TX0 : u_T := fun k => match k with
  | 0 => ("RunColumns$Bits", "low", "J", false)
  | _ => ("RunColumns$Bits", "high", "J", false)
def tyX0 : Nat → FieldType := fun k => match k with
  | 0 => .long
  | _ => .long
abbrev wsX00 : List Cond := u_ws RX0 TX0 2
theorem nmX0 : ∀ a, a < 2 → ∀ b, b < 2 → a ≠ b → (TX0 a).2.1 ≠ (TX0 b).2.1 := by decide +kernel
theorem tyX0_ok : ∀ k, k < 2 → parseFieldDescriptor (TX0 k).2.2.1 = some (tyX0 k) := by decide +kernel
abbrev cX0_init : ByteArray := prog_2_method_1_code
def yX0_init : MethodName := ⟨RX0, "<init>", "()V"⟩
abbrev cX0_firstOnes : ByteArray := prog_2_method_2_code
def yX0_firstOnes : MethodName := ⟨RX0, "firstOnes", "(I)J"⟩
abbrev cX0_has : ByteArray := prog_2_method_3_code
def yX0_has : MethodName := ⟨RX0, "has", "(I)Z"⟩
abbrev cX0_put : ByteArray := prog_2_method_4_code
def yX0_put : MethodName := ⟨RX0, "put", "(I)V"⟩
abbrev cX0_become : ByteArray := prog_2_method_5_code
def yX0_become : MethodName := ⟨RX0, "become", "(LRunColumns$Bits;)V"⟩
abbrev cX0_becomeOnes : ByteArray := prog_2_method_6_code
def yX0_becomeOnes : MethodName := ⟨RX0, "becomeOnes", "(I)V"⟩
abbrev cX0_becomeZeros : ByteArray := prog_2_method_7_code
def yX0_becomeZeros : MethodName := ⟨RX0, "becomeZeros", "()V"⟩
abbrev cX0_cutTo : ByteArray := prog_2_method_8_code
def yX0_cutTo : MethodName := ⟨RX0, "cutTo", "(I)V"⟩
abbrev cX0_turn : ByteArray := prog_2_method_9_code
def yX0_turn : MethodName := ⟨RX0, "turn", "(I)V"⟩
abbrev cX0_keepThoseOf : ByteArray := prog_2_method_10_code
def yX0_keepThoseOf : MethodName := ⟨RX0, "keepThoseOf", "(LRunColumns$Bits;)V"⟩
abbrev cX0_takeThoseOf : ByteArray := prog_2_method_11_code
def yX0_takeThoseOf : MethodName := ⟨RX0, "takeThoseOf", "(LRunColumns$Bits;)V"⟩
abbrev cX0_ones : ByteArray := prog_2_method_12_code
def yX0_ones : MethodName := ⟨RX0, "ones", "()I"⟩
abbrev cX0_runsWithin : ByteArray := prog_2_method_13_code
def yX0_runsWithin : MethodName := ⟨RX0, "runsWithin", "(I)I"⟩
abbrev cX0_endOfRun : ByteArray := prog_2_method_14_code
def yX0_endOfRun : MethodName := ⟨RX0, "endOfRun", "(II)I"⟩
abbrev cX0_startOfRun : ByteArray := prog_2_method_15_code
def yX0_startOfRun : MethodName := ⟨RX0, "startOfRun", "(II)I"⟩
abbrev cX0_placeOfOne : ByteArray := prog_2_method_16_code
def yX0_placeOfOne : MethodName := ⟨RX0, "placeOfOne", "(II)I"⟩
def RX1 : String := "RunColumns$Groups"
def TX1 : u_T := fun k => match k with
  | 0 => ("RunColumns$Groups", "inGroup", "LRunColumns$Bits;", true)
  | 1 => ("RunColumns$Groups", "sizes", "[I", true)
  | _ => ("RunColumns$Groups", "total", "I", false)
def tyX1 : Nat → FieldType := fun k => match k with
  | 0 => .object "RunColumns$Bits"
  | 1 => .array .int
  | _ => .int
abbrev wsX10 : List Cond := u_ws RX1 TX1 3
theorem nmX1 : ∀ a, a < 3 → ∀ b, b < 3 → a ≠ b → (TX1 a).2.1 ≠ (TX1 b).2.1 := by decide +kernel
theorem tyX1_ok : ∀ k, k < 3 → parseFieldDescriptor (TX1 k).2.2.1 = some (tyX1 k) := by decide +kernel
abbrev cX1_init : ByteArray := prog_3_method_1_code
def yX1_init : MethodName := ⟨RX1, "<init>", "()V"⟩
abbrev cX1_fill : ByteArray := prog_3_method_2_code
def yX1_fill : MethodName := ⟨RX1, "fill", "(LRunColumns$Bits;LRunColumns$Rows;I)V"⟩
abbrev cX1_sum : ByteArray := prog_3_method_3_code
def yX1_sum : MethodName := ⟨RX1, "sum", "()I"⟩
abbrev cX1_least : ByteArray := prog_3_method_4_code
def yX1_least : MethodName := ⟨RX1, "least", "()I"⟩
abbrev cX1_greatest : ByteArray := prog_3_method_5_code
def yX1_greatest : MethodName := ⟨RX1, "greatest", "()I"⟩
abbrev cX1_middle : ByteArray := prog_3_method_6_code
def yX1_middle : MethodName := ⟨RX1, "middle", "()I"⟩
abbrev cX1_unlike : ByteArray := prog_3_method_7_code
def yX1_unlike : MethodName := ⟨RX1, "unlike", "()I"⟩
abbrev cX1_greatestGroup : ByteArray := prog_3_method_8_code
def yX1_greatestGroup : MethodName := ⟨RX1, "greatestGroup", "()I"⟩
def RX2 : String := "RunColumns$Pairs"
def TX2 : u_T := fun k => match k with
  | 0 => ("RunColumns$Pairs", "most", "I", true)
  | 1 => ("RunColumns$Pairs", "firsts", "[I", true)
  | 2 => ("RunColumns$Pairs", "seconds", "[I", true)
  | _ => ("RunColumns$Pairs", "size", "I", false)
def tyX2 : Nat → FieldType := fun k => match k with
  | 0 => .int
  | 1 => .array .int
  | 2 => .array .int
  | _ => .int
abbrev wsX20 : List Cond := u_ws RX2 TX2 4
theorem nmX2 : ∀ a, a < 4 → ∀ b, b < 4 → a ≠ b → (TX2 a).2.1 ≠ (TX2 b).2.1 := by decide +kernel
theorem tyX2_ok : ∀ k, k < 4 → parseFieldDescriptor (TX2 k).2.2.1 = some (tyX2 k) := by decide +kernel
abbrev cX2_init : ByteArray := prog_4_method_1_code
def yX2_init : MethodName := ⟨RX2, "<init>", "(I)V"⟩
abbrev cX2_append : ByteArray := prog_4_method_2_code
def yX2_append : MethodName := ⟨RX2, "append", "(II)I"⟩
abbrev cX2_become : ByteArray := prog_4_method_3_code
def yX2_become : MethodName := ⟨RX2, "become", "(LRunColumns$Pairs;)V"⟩
def RX3 : String := "RunColumns$Query"
def TX3 : u_T := fun k => match k with
  | 0 => ("RunColumns$Query", "sorts", "[B", true)
  | 1 => ("RunColumns$Query", "columns", "[B", true)
  | 2 => ("RunColumns$Query", "leasts", "[B", true)
  | 3 => ("RunColumns$Query", "greatests", "[B", true)
  | _ => ("RunColumns$Query", "size", "I", false)
def tyX3 : Nat → FieldType := fun k => match k with
  | 0 => .array .byte
  | 1 => .array .byte
  | 2 => .array .byte
  | 3 => .array .byte
  | _ => .int
abbrev wsX30 : List Cond := u_ws RX3 TX3 5
theorem nmX3 : ∀ a, a < 5 → ∀ b, b < 5 → a ≠ b → (TX3 a).2.1 ≠ (TX3 b).2.1 := by decide +kernel
theorem tyX3_ok : ∀ k, k < 5 → parseFieldDescriptor (TX3 k).2.2.1 = some (tyX3 k) := by decide +kernel
abbrev cX3_init : ByteArray := prog_5_method_1_code
def yX3_init : MethodName := ⟨RX3, "<init>", "()V"⟩
abbrev cX3_appendJoin : ByteArray := prog_5_method_2_code
def yX3_appendJoin : MethodName := ⟨RX3, "appendJoin", "(I)V"⟩
abbrev cX3_appendLeaf : ByteArray := prog_5_method_3_code
def yX3_appendLeaf : MethodName := ⟨RX3, "appendLeaf", "(IIII)V"⟩
abbrev cX3_lastSort : ByteArray := prog_5_method_4_code
def yX3_lastSort : MethodName := ⟨RX3, "lastSort", "()I"⟩
abbrev cX3_stepsBetween : ByteArray := prog_5_method_5_code
def yX3_stepsBetween : MethodName := ⟨RX3, "stepsBetween", "(II)I"⟩
def RX4 : String := "RunColumns$Reader"
def TX4 : u_T := fun k => match k with
  | 0 => ("RunColumns$Reader", "signs", "[B", true)
  | 1 => ("RunColumns$Reader", "length", "I", false)
  | 2 => ("RunColumns$Reader", "place", "I", false)
  | _ => ("RunColumns$Reader", "fault", "I", false)
def tyX4 : Nat → FieldType := fun k => match k with
  | 0 => .array .byte
  | 1 => .int
  | 2 => .int
  | _ => .int
abbrev wsX40 : List Cond := u_ws RX4 TX4 4
theorem nmX4 : ∀ a, a < 4 → ∀ b, b < 4 → a ≠ b → (TX4 a).2.1 ≠ (TX4 b).2.1 := by decide +kernel
theorem tyX4_ok : ∀ k, k < 4 → parseFieldDescriptor (TX4 k).2.2.1 = some (tyX4 k) := by decide +kernel
abbrev cX4_init : ByteArray := prog_6_method_1_code
def yX4_init : MethodName := ⟨RX4, "<init>", "()V"⟩
abbrev cX4_append : ByteArray := prog_6_method_2_code
def yX4_append : MethodName := ⟨RX4, "append", "(I)V"⟩
abbrev cX4_readInto : ByteArray := prog_6_method_3_code
def yX4_readInto : MethodName := ⟨RX4, "readInto", "(LRunColumns$Query;)I"⟩
abbrev cX4_readEither : ByteArray := prog_6_method_4_code
def yX4_readEither : MethodName := ⟨RX4, "readEither", "(LRunColumns$Query;I)V"⟩
abbrev cX4_readBoth : ByteArray := prog_6_method_5_code
def yX4_readBoth : MethodName := ⟨RX4, "readBoth", "(LRunColumns$Query;I)V"⟩
abbrev cX4_readFactor : ByteArray := prog_6_method_6_code
def yX4_readFactor : MethodName := ⟨RX4, "readFactor", "(LRunColumns$Query;I)V"⟩
abbrev cX4_readQuestion : ByteArray := prog_6_method_7_code
def yX4_readQuestion : MethodName := ⟨RX4, "readQuestion", "(LRunColumns$Query;)V"⟩
abbrev cX4_passColumn : ByteArray := prog_6_method_8_code
def yX4_passColumn : MethodName := ⟨RX4, "passColumn", "()I"⟩
abbrev cX4_passValue : ByteArray := prog_6_method_9_code
def yX4_passValue : MethodName := ⟨RX4, "passValue", "()I"⟩
abbrev cX4_passClosing : ByteArray := prog_6_method_10_code
def yX4_passClosing : MethodName := ⟨RX4, "passClosing", "()V"⟩
abbrev cX4_blameWhatFollows : ByteArray := prog_6_method_11_code
def yX4_blameWhatFollows : MethodName := ⟨RX4, "blameWhatFollows", "()V"⟩
abbrev cX4_isJoinedBy : ByteArray := prog_6_method_12_code
def yX4_isJoinedBy : MethodName := ⟨RX4, "isJoinedBy", "(Ljava/lang/String;)Z"⟩
abbrev cX4_passJoin : ByteArray := prog_6_method_13_code
def yX4_passJoin : MethodName := ⟨RX4, "passJoin", "(Ljava/lang/String;)V"⟩
abbrev cX4_isWordAt : ByteArray := prog_6_method_14_code
def yX4_isWordAt : MethodName := ⟨RX4, "isWordAt", "(ILjava/lang/String;)Z"⟩
abbrev cX4_passWord : ByteArray := prog_6_method_15_code
def yX4_passWord : MethodName := ⟨RX4, "passWord", "(Ljava/lang/String;)V"⟩
abbrev cX4_pass : ByteArray := prog_6_method_16_code
def yX4_pass : MethodName := ⟨RX4, "pass", "(C)V"⟩
abbrev cX4_blame : ByteArray := prog_6_method_17_code
def yX4_blame : MethodName := ⟨RX4, "blame", "(I)V"⟩
abbrev cX4_isLetter : ByteArray := prog_6_method_18_code
def yX4_isLetter : MethodName := ⟨RX4, "isLetter", "(I)Z"⟩
abbrev cX4_isDigit : ByteArray := prog_6_method_19_code
def yX4_isDigit : MethodName := ⟨RX4, "isDigit", "(I)Z"⟩
abbrev cX4_signAt : ByteArray := prog_6_method_20_code
def yX4_signAt : MethodName := ⟨RX4, "signAt", "(I)I"⟩
def RX5 : String := "RunColumns$Rows"
def TX5 : u_T := fun k => match k with
  | 0 => ("RunColumns$Rows", "bits", "[LRunColumns$Bits;", true)
  | _ => ("RunColumns$Rows", "size", "I", false)
def tyX5 : Nat → FieldType := fun k => match k with
  | 0 => .array (.object "RunColumns$Bits")
  | _ => .int
abbrev wsX50 : List Cond := u_ws RX5 TX5 2
theorem nmX5 : ∀ a, a < 2 → ∀ b, b < 2 → a ≠ b → (TX5 a).2.1 ≠ (TX5 b).2.1 := by decide +kernel
theorem tyX5_ok : ∀ k, k < 2 → parseFieldDescriptor (TX5 k).2.2.1 = some (tyX5 k) := by decide +kernel
abbrev cX5_init : ByteArray := prog_7_method_1_code
def yX5_init : MethodName := ⟨RX5, "<init>", "()V"⟩
abbrev cX5_hasRow : ByteArray := prog_7_method_2_code
def yX5_hasRow : MethodName := ⟨RX5, "hasRow", "(I)Z"⟩
abbrev cX5_isFull : ByteArray := prog_7_method_3_code
def yX5_isFull : MethodName := ⟨RX5, "isFull", "()Z"⟩
abbrev cX5_bitsOf : ByteArray := prog_7_method_4_code
def yX5_bitsOf : MethodName := ⟨RX5, "bitsOf", "(II)LRunColumns$Bits;"⟩
abbrev cX5_valueOf : ByteArray := prog_7_method_5_code
def yX5_valueOf : MethodName := ⟨RX5, "valueOf", "(II)I"⟩
abbrev cX5_append : ByteArray := prog_7_method_6_code
def yX5_append : MethodName := ⟨RX5, "append", "(IIII)V"⟩
abbrev cX5_appendLike : ByteArray := prog_7_method_7_code
def yX5_appendLike : MethodName := ⟨RX5, "appendLike", "(I)V"⟩
abbrev cX5_putLast : ByteArray := prog_7_method_8_code
def yX5_putLast : MethodName := ⟨RX5, "putLast", "(II)V"⟩
abbrev cX5_cutTo : ByteArray := prog_7_method_9_code
def yX5_cutTo : MethodName := ⟨RX5, "cutTo", "(I)V"⟩
abbrev cX5_become : ByteArray := prog_7_method_10_code
def yX5_become : MethodName := ⟨RX5, "become", "(LRunColumns$Rows;)V"⟩
abbrev cX5_runsOfSlices : ByteArray := prog_7_method_11_code
def yX5_runsOfSlices : MethodName := ⟨RX5, "runsOfSlices", "(I)I"⟩
def RX6 : String := "RunColumns$State"
def TX6 : u_T := fun k => match k with
  | 0 => ("RunColumns$State", "rows", "LRunColumns$Rows;", true)
  | 1 => ("RunColumns$State", "marks", "[I", true)
  | 2 => ("RunColumns$State", "markCount", "I", false)
  | 3 => ("RunColumns$State", "seen", "LRunColumns$Pairs;", true)
  | 4 => ("RunColumns$State", "plan", "LRunColumns$Pairs;", true)
  | _ => ("RunColumns$State", "book", "LRunColumns$Pairs;", true)
def tyX6 : Nat → FieldType := fun k => match k with
  | 0 => .object "RunColumns$Rows"
  | 1 => .array .int
  | 2 => .int
  | 3 => .object "RunColumns$Pairs"
  | 4 => .object "RunColumns$Pairs"
  | _ => .object "RunColumns$Pairs"
abbrev wsX60 : List Cond := u_ws RX6 TX6 6
theorem nmX6 : ∀ a, a < 6 → ∀ b, b < 6 → a ≠ b → (TX6 a).2.1 ≠ (TX6 b).2.1 := by decide +kernel
theorem tyX6_ok : ∀ k, k < 6 → parseFieldDescriptor (TX6 k).2.2.1 = some (tyX6 k) := by decide +kernel
abbrev cX6_init : ByteArray := prog_8_method_1_code
def yX6_init : MethodName := ⟨RX6, "<init>", "()V"⟩
abbrev cX6_hasMark : ByteArray := prog_8_method_2_code
def yX6_hasMark : MethodName := ⟨RX6, "hasMark", "(I)Z"⟩
abbrev cX6_become : ByteArray := prog_8_method_3_code
def yX6_become : MethodName := ⟨RX6, "become", "(LRunColumns$State;)V"⟩
abbrev cX6_isSeenBelow : ByteArray := prog_8_method_4_code
def yX6_isSeenBelow : MethodName := ⟨RX6, "isSeenBelow", "(II)Z"⟩
abbrev cX6_tryPlan : ByteArray := prog_8_method_5_code
def yX6_tryPlan : MethodName := ⟨RX6, "tryPlan", "(LRunColumns$Rows;)V"⟩
abbrev cX6_tryStep : ByteArray := prog_8_method_6_code
def yX6_tryStep : MethodName := ⟨RX6, "tryStep", "(IILRunColumns$Rows;)V"⟩
def RX7 : String := "RunColumns$Tape"
def TX7 : u_T := fun k => match k with
  | 0 => ("RunColumns$Tape", "items", "[J", true)
  | 1 => ("RunColumns$Tape", "sort", "I", false)
  | _ => ("RunColumns$Tape", "size", "I", false)
def tyX7 : Nat → FieldType := fun k => match k with
  | 0 => .array .long
  | 1 => .int
  | _ => .int
abbrev wsX70 : List Cond := u_ws RX7 TX7 3
theorem nmX7 : ∀ a, a < 3 → ∀ b, b < 3 → a ≠ b → (TX7 a).2.1 ≠ (TX7 b).2.1 := by decide +kernel
theorem tyX7_ok : ∀ k, k < 3 → parseFieldDescriptor (TX7 k).2.2.1 = some (tyX7 k) := by decide +kernel
abbrev cX7_init : ByteArray := prog_9_method_1_code
def yX7_init : MethodName := ⟨RX7, "<init>", "()V"⟩
abbrev cX7_isNothing : ByteArray := prog_9_method_2_code
def yX7_isNothing : MethodName := ⟨RX7, "isNothing", "()Z"⟩
abbrev cX7_hasItem : ByteArray := prog_9_method_3_code
def yX7_hasItem : MethodName := ⟨RX7, "hasItem", "(I)Z"⟩
abbrev cX7_hasStretch : ByteArray := prog_9_method_4_code
def yX7_hasStretch : MethodName := ⟨RX7, "hasStretch", "(II)Z"⟩
abbrev cX7_become : ByteArray := prog_9_method_5_code
def yX7_become : MethodName := ⟨RX7, "become", "(II)V"⟩
abbrev cX7_put : ByteArray := prog_9_method_6_code
def yX7_put : MethodName := ⟨RX7, "put", "(IJ)V"⟩
def RX8 : String := "RunColumns$Work"
def TX8 : u_T := fun k => match k with
  | 0 => ("RunColumns$Work", "results", "[LRunColumns$Bits;", true)
  | 1 => ("RunColumns$Work", "costs", "[I", true)
  | 2 => ("RunColumns$Work", "depths", "[I", true)
  | _ => ("RunColumns$Work", "height", "I", false)
def tyX8 : Nat → FieldType := fun k => match k with
  | 0 => .array (.object "RunColumns$Bits")
  | 1 => .array .int
  | 2 => .array .int
  | _ => .int
abbrev wsX80 : List Cond := u_ws RX8 TX8 4
theorem nmX8 : ∀ a, a < 4 → ∀ b, b < 4 → a ≠ b → (TX8 a).2.1 ≠ (TX8 b).2.1 := by decide +kernel
theorem tyX8_ok : ∀ k, k < 4 → parseFieldDescriptor (TX8 k).2.2.1 = some (tyX8 k) := by decide +kernel
abbrev cX8_init : ByteArray := prog_10_method_1_code
def yX8_init : MethodName := ⟨RX8, "<init>", "()V"⟩
abbrev cX8_result : ByteArray := prog_10_method_2_code
def yX8_result : MethodName := ⟨RX8, "result", "()LRunColumns$Bits;"⟩
abbrev cX8_cost : ByteArray := prog_10_method_3_code
def yX8_cost : MethodName := ⟨RX8, "cost", "()I"⟩
abbrev cX8_depth : ByteArray := prog_10_method_4_code
def yX8_depth : MethodName := ⟨RX8, "depth", "()I"⟩
abbrev cX8_goThrough : ByteArray := prog_10_method_5_code
def yX8_goThrough : MethodName := ⟨RX8, "goThrough", "(LRunColumns$Query;LRunColumns$Rows;)V"⟩
abbrev cX8_turn : ByteArray := prog_10_method_6_code
def yX8_turn : MethodName := ⟨RX8, "turn", "(LRunColumns$Rows;)V"⟩
abbrev cX8_join : ByteArray := prog_10_method_7_code
def yX8_join : MethodName := ⟨RX8, "join", "(ILRunColumns$Rows;)V"⟩
abbrev cX8_ask : ByteArray := prog_10_method_8_code
def yX8_ask : MethodName := ⟨RX8, "ask", "(LRunColumns$Query;ILRunColumns$Rows;)V"⟩
def RX9 : String := "RunColumns"
def TX9 : u_T := fun k => match k with
  | 0 => ("RunColumns", "now", "LRunColumns$State;", true)
  | 1 => ("RunColumns", "imaged", "LRunColumns$State;", true)
  | 2 => ("RunColumns", "hasImage", "Z", false)
  | 3 => ("RunColumns", "reader", "LRunColumns$Reader;", true)
  | 4 => ("RunColumns", "queries", "[LRunColumns$Query;", true)
  | 5 => ("RunColumns", "queryCount", "I", false)
  | 6 => ("RunColumns", "tapes", "[LRunColumns$Tape;", true)
  | 7 => ("RunColumns", "work", "LRunColumns$Work;", true)
  | 8 => ("RunColumns", "otherWork", "LRunColumns$Work;", true)
  | 9 => ("RunColumns", "scratch", "LRunColumns$Bits;", true)
  | 10 => ("RunColumns", "groups", "LRunColumns$Groups;", true)
  | _ => ("RunColumns", "trial", "LRunColumns$Rows;", true)
def tyX9 : Nat → FieldType := fun k => match k with
  | 0 => .object "RunColumns$State"
  | 1 => .object "RunColumns$State"
  | 2 => .boolean
  | 3 => .object "RunColumns$Reader"
  | 4 => .array (.object "RunColumns$Query")
  | 5 => .int
  | 6 => .array (.object "RunColumns$Tape")
  | 7 => .object "RunColumns$Work"
  | 8 => .object "RunColumns$Work"
  | 9 => .object "RunColumns$Bits"
  | 10 => .object "RunColumns$Groups"
  | _ => .object "RunColumns$Rows"
abbrev wsX90 : List Cond := u_ws RX9 TX9 12
theorem nmX9 : ∀ a, a < 12 → ∀ b, b < 12 → a ≠ b → (TX9 a).2.1 ≠ (TX9 b).2.1 := by decide +kernel
theorem tyX9_ok : ∀ k, k < 12 → parseFieldDescriptor (TX9 k).2.2.1 = some (tyX9 k) := by decide +kernel
abbrev cX9_init : ByteArray := prog_1_method_1_code
def yX9_init : MethodName := ⟨RX9, "<init>", "()V"⟩
abbrev cX9_add : ByteArray := prog_1_method_2_code
def yX9_add : MethodName := ⟨RX9, "add", "(IIII)I"⟩
abbrev cX9_at : ByteArray := prog_1_method_3_code
def yX9_at : MethodName := ⟨RX9, "at", "(II)I"⟩
abbrev cX9_mark : ByteArray := prog_1_method_4_code
def yX9_mark : MethodName := ⟨RX9, "mark", "()I"⟩
abbrev cX9_back : ByteArray := prog_1_method_5_code
def yX9_back : MethodName := ⟨RX9, "back", "(I)I"⟩
abbrev cX9_runs : ByteArray := prog_1_method_6_code
def yX9_runs : MethodName := ⟨RX9, "runs", "(II)I"⟩
abbrev cX9_run : ByteArray := prog_1_method_7_code
def yX9_run : MethodName := ⟨RX9, "run", "(III)I"⟩
abbrev cX9_feed : ByteArray := prog_1_method_8_code
def yX9_feed : MethodName := ⟨RX9, "feed", "(I)I"⟩
abbrev cX9_query : ByteArray := prog_1_method_9_code
def yX9_query : MethodName := ⟨RX9, "query", "()I"⟩
abbrev cX9_of : ByteArray := prog_1_method_10_code
def yX9_of : MethodName := ⟨RX9, "of", "(II)I"⟩
abbrev cX9_row : ByteArray := prog_1_method_11_code
def yX9_row : MethodName := ⟨RX9, "row", "(II)I"⟩
abbrev cX9_group : ByteArray := prog_1_method_12_code
def yX9_group : MethodName := ⟨RX9, "group", "(III)I"⟩
abbrev cX9_edge : ByteArray := prog_1_method_13_code
def yX9_edge : MethodName := ⟨RX9, "edge", "(III)I"⟩
abbrev cX9_two : ByteArray := prog_1_method_14_code
def yX9_two : MethodName := ⟨RX9, "two", "(III)I"⟩
abbrev cX9_see : ByteArray := prog_1_method_15_code
def yX9_see : MethodName := ⟨RX9, "see", "(IZ)I"⟩
abbrev cX9_bounds : ByteArray := prog_1_method_16_code
def yX9_bounds : MethodName := ⟨RX9, "bounds", "(II)I"⟩
abbrev cX9_odds : ByteArray := prog_1_method_17_code
def yX9_odds : MethodName := ⟨RX9, "odds", "(II)J"⟩
abbrev cX9_mean : ByteArray := prog_1_method_18_code
def yX9_mean : MethodName := ⟨RX9, "mean", "(III)J"⟩
abbrev cX9_plan : ByteArray := prog_1_method_19_code
def yX9_plan : MethodName := ⟨RX9, "plan", "(II)I"⟩
abbrev cX9_ends : ByteArray := prog_1_method_20_code
def yX9_ends : MethodName := ⟨RX9, "ends", "(II)I"⟩
abbrev cX9_book : ByteArray := prog_1_method_21_code
def yX9_book : MethodName := ⟨RX9, "book", "(II)I"⟩
abbrev cX9_looked : ByteArray := prog_1_method_22_code
def yX9_looked : MethodName := ⟨RX9, "looked", "()I"⟩
abbrev cX9_judge : ByteArray := prog_1_method_23_code
def yX9_judge : MethodName := ⟨RX9, "judge", "(III)I"⟩
abbrev cX9_image : ByteArray := prog_1_method_24_code
def yX9_image : MethodName := ⟨RX9, "image", "()I"⟩
abbrev cX9_undo : ByteArray := prog_1_method_25_code
def yX9_undo : MethodName := ⟨RX9, "undo", "()I"⟩
abbrev cX9_taken : ByteArray := prog_1_method_26_code
def yX9_taken : MethodName := ⟨RX9, "taken", "(II)I"⟩
abbrev cX9_count : ByteArray := prog_1_method_27_code
def yX9_count : MethodName := ⟨RX9, "count", "(I)I"⟩
abbrev cX9_tape : ByteArray := prog_1_method_28_code
def yX9_tape : MethodName := ⟨RX9, "tape", "(III)I"⟩
abbrev cX9_item : ByteArray := prog_1_method_29_code
def yX9_item : MethodName := ⟨RX9, "item", "(IIJ)I"⟩
abbrev cX9_read : ByteArray := prog_1_method_30_code
def yX9_read : MethodName := ⟨RX9, "read", "(II)J"⟩
abbrev cX9_shift : ByteArray := prog_1_method_31_code
def yX9_shift : MethodName := ⟨RX9, "shift", "(IIIII)I"⟩
abbrev cX9_isValue : ByteArray := prog_1_method_32_code
def yX9_isValue : MethodName := ⟨RX9, "isValue", "(I)Z"⟩
abbrev cX9_isKind : ByteArray := prog_1_method_33_code
def yX9_isKind : MethodName := ⟨RX9, "isKind", "(I)Z"⟩
abbrev cX9_isColumn : ByteArray := prog_1_method_34_code
def yX9_isColumn : MethodName := ⟨RX9, "isColumn", "(I)Z"⟩
abbrev cX9_isPart : ByteArray := prog_1_method_35_code
def yX9_isPart : MethodName := ⟨RX9, "isPart", "(I)Z"⟩
abbrev cX9_isTape : ByteArray := prog_1_method_36_code
def yX9_isTape : MethodName := ⟨RX9, "isTape", "(I)Z"⟩
abbrev cX9_isQuery : ByteArray := prog_1_method_37_code
def yX9_isQuery : MethodName := ⟨RX9, "isQuery", "(I)Z"⟩
abbrev cX9_resultOf : ByteArray := prog_1_method_38_code
def yX9_resultOf : MethodName := ⟨RX9, "resultOf", "(I)LRunColumns$Bits;"⟩
abbrev cX9_inLowestTerms : ByteArray := prog_1_method_39_code
def yX9_inLowestTerms : MethodName := ⟨RX9, "inLowestTerms", "(III)J"⟩
abbrev cX9_greatestDivisor : ByteArray := prog_1_method_40_code
def yX9_greatestDivisor : MethodName := ⟨RX9, "greatestDivisor", "(II)I"⟩
def RX10 : String := "RunColumnsModel"
def TX10 : u_T := fun k => match k with
  | 0 => ("RunColumnsModel", "g", "[I", true)
  | 1 => ("RunColumnsModel", "saved", "[I", true)
  | 2 => ("RunColumnsModel", "kept", "[I", true)
  | 3 => ("RunColumnsModel", "isKept", "Z", false)
  | 4 => ("RunColumnsModel", "queries", "I", false)
  | 5 => ("RunColumnsModel", "roots", "[I", true)
  | 6 => ("RunColumnsModel", "sort", "[I", true)
  | 7 => ("RunColumnsModel", "column", "[I", true)
  | 8 => ("RunColumnsModel", "low", "[I", true)
  | 9 => ("RunColumnsModel", "high", "[I", true)
  | 10 => ("RunColumnsModel", "one", "[I", true)
  | 11 => ("RunColumnsModel", "other", "[I", true)
  | 12 => ("RunColumnsModel", "text", "[I", true)
  | 13 => ("RunColumnsModel", "textMany", "I", false)
  | 14 => ("RunColumnsModel", "groups", "[I", true)
  | 15 => ("RunColumnsModel", "tapeSort", "[I", true)
  | 16 => ("RunColumnsModel", "tapeSize", "[I", true)
  | 17 => ("RunColumnsModel", "tapes", "[[J", true)
  | 18 => ("RunColumnsModel", "moved", "[J", true)
  | 19 => ("RunColumnsModel", "spot", "I", false)
  | 20 => ("RunColumnsModel", "fault", "I", false)
  | 21 => ("RunColumnsModel", "nodes", "I", false)
  | _ => ("RunColumnsModel", "base", "I", false)
def tyX10 : Nat → FieldType := fun k => match k with
  | 0 => .array .int
  | 1 => .array .int
  | 2 => .array .int
  | 3 => .boolean
  | 4 => .int
  | 5 => .array .int
  | 6 => .array .int
  | 7 => .array .int
  | 8 => .array .int
  | 9 => .array .int
  | 10 => .array .int
  | 11 => .array .int
  | 12 => .array .int
  | 13 => .int
  | 14 => .array .int
  | 15 => .array .int
  | 16 => .array .int
  | 17 => .array (.array .long)
  | 18 => .array .long
  | 19 => .int
  | 20 => .int
  | 21 => .int
  | _ => .int
abbrev wsX100 : List Cond := u_ws RX10 TX10 23
theorem nmX10 : ∀ a, a < 23 → ∀ b, b < 23 → a ≠ b → (TX10 a).2.1 ≠ (TX10 b).2.1 := by decide +kernel
theorem tyX10_ok : ∀ k, k < 23 → parseFieldDescriptor (TX10 k).2.2.1 = some (tyX10 k) := by decide +kernel
abbrev cX10_init : ByteArray := prog_12_method_1_code
def yX10_init : MethodName := ⟨RX10, "<init>", "()V"⟩
abbrev cX10_in : ByteArray := prog_12_method_2_code
def yX10_in : MethodName := ⟨RX10, "in", "(III)Z"⟩
abbrev cX10_copy : ByteArray := prog_12_method_3_code
def yX10_copy : MethodName := ⟨RX10, "copy", "([I[I)V"⟩
abbrev cX10_isRow : ByteArray := prog_12_method_4_code
def yX10_isRow : MethodName := ⟨RX10, "isRow", "(I)Z"⟩
abbrev cX10_comes : ByteArray := prog_12_method_5_code
def yX10_comes : MethodName := ⟨RX10, "comes", "(IIII)I"⟩
abbrev cX10_add : ByteArray := prog_12_method_6_code
def yX10_add : MethodName := ⟨RX10, "add", "(IIII)I"⟩
abbrev cX10_at : ByteArray := prog_12_method_7_code
def yX10_at : MethodName := ⟨RX10, "at", "(II)I"⟩
abbrev cX10_mark : ByteArray := prog_12_method_8_code
def yX10_mark : MethodName := ⟨RX10, "mark", "()I"⟩
abbrev cX10_back : ByteArray := prog_12_method_9_code
def yX10_back : MethodName := ⟨RX10, "back", "(I)I"⟩
abbrev cX10_bit : ByteArray := prog_12_method_10_code
def yX10_bit : MethodName := ⟨RX10, "bit", "(III)Z"⟩
abbrev cX10_runsOf : ByteArray := prog_12_method_11_code
def yX10_runsOf : MethodName := ⟨RX10, "runsOf", "(II)I"⟩
abbrev cX10_runs : ByteArray := prog_12_method_12_code
def yX10_runs : MethodName := ⟨RX10, "runs", "(II)I"⟩
abbrev cX10_run : ByteArray := prog_12_method_13_code
def yX10_run : MethodName := ⟨RX10, "run", "(III)I"⟩
abbrev cX10_isOnes : ByteArray := prog_12_method_14_code
def yX10_isOnes : MethodName := ⟨RX10, "isOnes", "(III)Z"⟩
abbrev cX10_feed : ByteArray := prog_12_method_15_code
def yX10_feed : MethodName := ⟨RX10, "feed", "(I)I"⟩
abbrev cX10_signAt : ByteArray := prog_12_method_16_code
def yX10_signAt : MethodName := ⟨RX10, "signAt", "(I)I"⟩
abbrev cX10_wrong : ByteArray := prog_12_method_17_code
def yX10_wrong : MethodName := ⟨RX10, "wrong", "(I)V"⟩
abbrev cX10_must : ByteArray := prog_12_method_18_code
def yX10_must : MethodName := ⟨RX10, "must", "(I)V"⟩
abbrev cX10_wordEnd : ByteArray := prog_12_method_19_code
def yX10_wordEnd : MethodName := ⟨RX10, "wordEnd", "()I"⟩
abbrev cX10_word : ByteArray := prog_12_method_20_code
def yX10_word : MethodName := ⟨RX10, "word", "()I"⟩
abbrev cX10_node : ByteArray := prog_12_method_21_code
def yX10_node : MethodName := ⟨RX10, "node", "(IIIIII)I"⟩
abbrev cX10_value : ByteArray := prog_12_method_22_code
def yX10_value : MethodName := ⟨RX10, "value", "()I"⟩
abbrev cX10_columnHere : ByteArray := prog_12_method_23_code
def yX10_columnHere : MethodName := ⟨RX10, "columnHere", "(I)I"⟩
abbrev cX10_factor : ByteArray := prog_12_method_24_code
def yX10_factor : MethodName := ⟨RX10, "factor", "(I)I"⟩
abbrev cX10_follows : ByteArray := prog_12_method_25_code
def yX10_follows : MethodName := ⟨RX10, "follows", "(I)Z"⟩
abbrev cX10_both : ByteArray := prog_12_method_26_code
def yX10_both : MethodName := ⟨RX10, "both", "(I)I"⟩
abbrev cX10_either : ByteArray := prog_12_method_27_code
def yX10_either : MethodName := ⟨RX10, "either", "(I)I"⟩
abbrev cX10_query : ByteArray := prog_12_method_28_code
def yX10_query : MethodName := ⟨RX10, "query", "()I"⟩
abbrev cX10_isQuery : ByteArray := prog_12_method_29_code
def yX10_isQuery : MethodName := ⟨RX10, "isQuery", "(I)Z"⟩
abbrev cX10_isSo : ByteArray := prog_12_method_30_code
def yX10_isSo : MethodName := ⟨RX10, "isSo", "(II)Z"⟩
abbrev cX10_resultMany : ByteArray := prog_12_method_31_code
def yX10_resultMany : MethodName := ⟨RX10, "resultMany", "(I)I"⟩
abbrev cX10_resultRuns : ByteArray := prog_12_method_32_code
def yX10_resultRuns : MethodName := ⟨RX10, "resultRuns", "(I)I"⟩
abbrev cX10_cost : ByteArray := prog_12_method_33_code
def yX10_cost : MethodName := ⟨RX10, "cost", "(I)I"⟩
abbrev cX10_sortsIn : ByteArray := prog_12_method_34_code
def yX10_sortsIn : MethodName := ⟨RX10, "sortsIn", "(IZ)I"⟩
abbrev cX10_deepOf : ByteArray := prog_12_method_35_code
def yX10_deepOf : MethodName := ⟨RX10, "deepOf", "(I)I"⟩
abbrev cX10_rowAt : ByteArray := prog_12_method_36_code
def yX10_rowAt : MethodName := ⟨RX10, "rowAt", "(II)I"⟩
abbrev cX10_of : ByteArray := prog_12_method_37_code
def yX10_of : MethodName := ⟨RX10, "of", "(II)I"⟩
abbrev cX10_row : ByteArray := prog_12_method_38_code
def yX10_row : MethodName := ⟨RX10, "row", "(II)I"⟩
abbrev cX10_grouped : ByteArray := prog_12_method_39_code
def yX10_grouped : MethodName := ⟨RX10, "grouped", "(II)V"⟩
abbrev cX10_group : ByteArray := prog_12_method_40_code
def yX10_group : MethodName := ⟨RX10, "group", "(III)I"⟩
abbrev cX10_edge : ByteArray := prog_12_method_41_code
def yX10_edge : MethodName := ⟨RX10, "edge", "(III)I"⟩
abbrev cX10_two : ByteArray := prog_12_method_42_code
def yX10_two : MethodName := ⟨RX10, "two", "(III)I"⟩
abbrev cX10_see : ByteArray := prog_12_method_43_code
def yX10_see : MethodName := ⟨RX10, "see", "(IZ)I"⟩
abbrev cX10_isSeen : ByteArray := prog_12_method_44_code
def yX10_isSeen : MethodName := ⟨RX10, "isSeen", "(II)Z"⟩
abbrev cX10_bounds : ByteArray := prog_12_method_45_code
def yX10_bounds : MethodName := ⟨RX10, "bounds", "(II)I"⟩
abbrev cX10_common : ByteArray := prog_12_method_46_code
def yX10_common : MethodName := ⟨RX10, "common", "(II)I"⟩
abbrev cX10_part : ByteArray := prog_12_method_47_code
def yX10_part : MethodName := ⟨RX10, "part", "(III)J"⟩
abbrev cX10_odds : ByteArray := prog_12_method_48_code
def yX10_odds : MethodName := ⟨RX10, "odds", "(II)J"⟩
abbrev cX10_mean : ByteArray := prog_12_method_49_code
def yX10_mean : MethodName := ⟨RX10, "mean", "(III)J"⟩
abbrev cX10_plan : ByteArray := prog_12_method_50_code
def yX10_plan : MethodName := ⟨RX10, "plan", "(II)I"⟩
abbrev cX10_does : ByteArray := prog_12_method_51_code
def yX10_does : MethodName := ⟨RX10, "does", "(II)V"⟩
abbrev cX10_ends : ByteArray := prog_12_method_52_code
def yX10_ends : MethodName := ⟨RX10, "ends", "(II)I"⟩
abbrev cX10_book : ByteArray := prog_12_method_53_code
def yX10_book : MethodName := ⟨RX10, "book", "(II)I"⟩
abbrev cX10_looked : ByteArray := prog_12_method_54_code
def yX10_looked : MethodName := ⟨RX10, "looked", "()I"⟩
abbrev cX10_isTape : ByteArray := prog_12_method_55_code
def yX10_isTape : MethodName := ⟨RX10, "isTape", "(I)Z"⟩
abbrev cX10_judge : ByteArray := prog_12_method_56_code
def yX10_judge : MethodName := ⟨RX10, "judge", "(III)I"⟩
abbrev cX10_image : ByteArray := prog_12_method_57_code
def yX10_image : MethodName := ⟨RX10, "image", "()I"⟩
abbrev cX10_undo : ByteArray := prog_12_method_58_code
def yX10_undo : MethodName := ⟨RX10, "undo", "()I"⟩
abbrev cX10_taken : ByteArray := prog_12_method_59_code
def yX10_taken : MethodName := ⟨RX10, "taken", "(II)I"⟩
abbrev cX10_count : ByteArray := prog_12_method_60_code
def yX10_count : MethodName := ⟨RX10, "count", "(I)I"⟩
abbrev cX10_tape : ByteArray := prog_12_method_61_code
def yX10_tape : MethodName := ⟨RX10, "tape", "(III)I"⟩
abbrev cX10_fit : ByteArray := prog_12_method_62_code
def yX10_fit : MethodName := ⟨RX10, "fit", "(IJ)J"⟩
abbrev cX10_item : ByteArray := prog_12_method_63_code
def yX10_item : MethodName := ⟨RX10, "item", "(IIJ)I"⟩
abbrev cX10_read : ByteArray := prog_12_method_64_code
def yX10_read : MethodName := ⟨RX10, "read", "(II)J"⟩
abbrev cX10_shift : ByteArray := prog_12_method_65_code
def yX10_shift : MethodName := ⟨RX10, "shift", "(IIIII)I"⟩
def RJx145de : String := "java/io/Serializable"
def TJx145de : u_T := fun k => match k with
  | _ => ("", "", "", false)
def tyJx145de : Nat → FieldType := fun k => match k with
  | _ => .int
abbrev wsJx145de0 : List Cond := u_ws RJx145de TJx145de 0
theorem nmJx145de : ∀ a, a < 0 → ∀ b, b < 0 → a ≠ b → (TJx145de a).2.1 ≠ (TJx145de b).2.1 := by decide +kernel
theorem tyJx145de_ok : ∀ k, k < 0 → parseFieldDescriptor (TJx145de k).2.2.1 = some (tyJx145de k) := by decide +kernel
def RJx9f9b0 : String := "java/lang/CharSequence"
def TJx9f9b0 : u_T := fun k => match k with
  | _ => ("", "", "", false)
def tyJx9f9b0 : Nat → FieldType := fun k => match k with
  | _ => .int
abbrev wsJx9f9b00 : List Cond := u_ws RJx9f9b0 TJx9f9b0 0
theorem nmJx9f9b0 : ∀ a, a < 0 → ∀ b, b < 0 → a ≠ b → (TJx9f9b0 a).2.1 ≠ (TJx9f9b0 b).2.1 := by decide +kernel
theorem tyJx9f9b0_ok : ∀ k, k < 0 → parseFieldDescriptor (TJx9f9b0 k).2.2.1 = some (tyJx9f9b0 k) := by decide +kernel
def RJxb160c : String := "java/lang/Comparable"
def TJxb160c : u_T := fun k => match k with
  | _ => ("", "", "", false)
def tyJxb160c : Nat → FieldType := fun k => match k with
  | _ => .int
abbrev wsJxb160c0 : List Cond := u_ws RJxb160c TJxb160c 0
theorem nmJxb160c : ∀ a, a < 0 → ∀ b, b < 0 → a ≠ b → (TJxb160c a).2.1 ≠ (TJxb160c b).2.1 := by decide +kernel
theorem tyJxb160c_ok : ∀ k, k < 0 → parseFieldDescriptor (TJxb160c k).2.2.1 = some (tyJxb160c k) := by decide +kernel
def RJ13 : String := "java/lang/Long"
def TJ13 : u_T := fun k => match k with
  | _ => ("", "", "", false)
def tyJ13 : Nat → FieldType := fun k => match k with
  | _ => .int
abbrev wsJ130 : List Cond := u_ws RJ13 TJ13 0
theorem nmJ13 : ∀ a, a < 0 → ∀ b, b < 0 → a ≠ b → (TJ13 a).2.1 ≠ (TJ13 b).2.1 := by decide +kernel
theorem tyJ13_ok : ∀ k, k < 0 → parseFieldDescriptor (TJ13 k).2.2.1 = some (tyJ13 k) := by decide +kernel
abbrev cJ13_bitCount_95d88 : ByteArray := prog_13_method_50_code
def yJ13_bitCount_95d88 : MethodName := ⟨RJ13, "bitCount", "(J)I"⟩
def RJ9 : String := "java/lang/Math"
def TJ9 : u_T := fun k => match k with
  | _ => ("", "", "", false)
def tyJ9 : Nat → FieldType := fun k => match k with
  | _ => .int
abbrev wsJ90 : List Cond := u_ws RJ9 TJ9 0
theorem nmJ9 : ∀ a, a < 0 → ∀ b, b < 0 → a ≠ b → (TJ9 a).2.1 ≠ (TJ9 b).2.1 := by decide +kernel
theorem tyJ9_ok : ∀ k, k < 0 → parseFieldDescriptor (TJ9 k).2.2.1 = some (tyJ9 k) := by decide +kernel
abbrev cJ9_max_7cf53 : ByteArray := prog_14_method_65_code
def yJ9_max_7cf53 : MethodName := ⟨RJ9, "max", "(II)I"⟩
def RJ0 : String := "java/lang/String"
def TJ0 : u_T := fun k => match k with
  | _ => ("", "", "", false)
def tyJ0 : Nat → FieldType := fun k => match k with
  | _ => .int
abbrev wsJ00 : List Cond := u_ws RJ0 TJ0 0
theorem nmJ0 : ∀ a, a < 0 → ∀ b, b < 0 → a ≠ b → (TJ0 a).2.1 ≠ (TJ0 b).2.1 := by decide +kernel
theorem tyJ0_ok : ∀ k, k < 0 → parseFieldDescriptor (TJ0 k).2.2.1 = some (tyJ0 k) := by decide +kernel
abbrev cJ0_length_8abf5 : ByteArray := prog_15_method_54_code
def yJ0_length_8abf5 : MethodName := ⟨RJ0, "length", "()I"⟩
abbrev cJ0_charAt_5068e : ByteArray := prog_15_method_56_code
def yJ0_charAt_5068e : MethodName := ⟨RJ0, "charAt", "(I)C"⟩
abbrev cJ0_coder_7d493 : ByteArray := prog_15_method_152_code
def yJ0_coder_7d493 : MethodName := ⟨RJ0, "coder", "()B"⟩
abbrev cJ0_isLatin1_aae02 : ByteArray := prog_15_method_154_code
def yJ0_isLatin1_aae02 : MethodName := ⟨RJ0, "isLatin1", "()Z"⟩
abbrev cJ0_checkIndex_df160 : ByteArray := prog_15_method_155_code
def yJ0_checkIndex_df160 : MethodName := ⟨RJ0, "checkIndex", "(II)V"⟩
def RJ1 : String := "java/lang/StringLatin1"
def TJ1 : u_T := fun k => match k with
  | _ => ("", "", "", false)
def tyJ1 : Nat → FieldType := fun k => match k with
  | _ => .int
abbrev wsJ10 : List Cond := u_ws RJ1 TJ1 0
theorem nmJ1 : ∀ a, a < 0 → ∀ b, b < 0 → a ≠ b → (TJ1 a).2.1 ≠ (TJ1 b).2.1 := by decide +kernel
theorem tyJ1_ok : ∀ k, k < 0 → parseFieldDescriptor (TJ1 k).2.2.1 = some (tyJ1 k) := by decide +kernel
abbrev cJ1_charAt_3b067 : ByteArray := prog_16_method_2_code
def yJ1_charAt_3b067 : MethodName := ⟨RJ1, "charAt", "([BI)C"⟩
def RJ2 : String := "java/lang/StringUTF16"
def TJ2 : u_T := fun k => match k with
  | _ => ("", "", "", false)
def tyJ2 : Nat → FieldType := fun k => match k with
  | _ => .int
abbrev wsJ20 : List Cond := u_ws RJ2 TJ2 0
theorem nmJ2 : ∀ a, a < 0 → ∀ b, b < 0 → a ≠ b → (TJ2 a).2.1 ≠ (TJ2 b).2.1 := by decide +kernel
theorem tyJ2_ok : ∀ k, k < 0 → parseFieldDescriptor (TJ2 k).2.2.1 = some (tyJ2 k) := by decide +kernel
abbrev cJ2_getChar_3b067 : ByteArray := prog_17_method_5_code
def yJ2_getChar_3b067 : MethodName := ⟨RJ2, "getChar", "([BI)C"⟩
abbrev cJ2_length_9d52b : ByteArray := prog_17_method_6_code
def yJ2_length_9d52b : MethodName := ⟨RJ2, "length", "([B)I"⟩
abbrev cJ2_charAt_3b067 : ByteArray := prog_17_method_83_code
def yJ2_charAt_3b067 : MethodName := ⟨RJ2, "charAt", "([BI)C"⟩
abbrev cJ2_checkIndex_2214a : ByteArray := prog_17_method_91_code
def yJ2_checkIndex_2214a : MethodName := ⟨RJ2, "checkIndex", "(I[B)V"⟩
def RJ10 : String := "java/lang/System"
def TJ10 : u_T := fun k => match k with
  | _ => ("", "", "", false)
def tyJ10 : Nat → FieldType := fun k => match k with
  | _ => .int
abbrev wsJ100 : List Cond := u_ws RJ10 TJ10 0
theorem nmJ10 : ∀ a, a < 0 → ∀ b, b < 0 → a ≠ b → (TJ10 a).2.1 ≠ (TJ10 b).2.1 := by decide +kernel
theorem tyJ10_ok : ∀ k, k < 0 → parseFieldDescriptor (TJ10 k).2.2.1 = some (tyJ10 k) := by decide +kernel
def RJxfd54e : String := "java/lang/constant/Constable"
def TJxfd54e : u_T := fun k => match k with
  | _ => ("", "", "", false)
def tyJxfd54e : Nat → FieldType := fun k => match k with
  | _ => .int
abbrev wsJxfd54e0 : List Cond := u_ws RJxfd54e TJxfd54e 0
theorem nmJxfd54e : ∀ a, a < 0 → ∀ b, b < 0 → a ≠ b → (TJxfd54e a).2.1 ≠ (TJxfd54e b).2.1 := by decide +kernel
theorem tyJxfd54e_ok : ∀ k, k < 0 → parseFieldDescriptor (TJxfd54e k).2.2.1 = some (tyJxfd54e k) := by decide +kernel
def RJx3cf43 : String := "java/lang/constant/ConstantDesc"
def TJx3cf43 : u_T := fun k => match k with
  | _ => ("", "", "", false)
def tyJx3cf43 : Nat → FieldType := fun k => match k with
  | _ => .int
abbrev wsJx3cf430 : List Cond := u_ws RJx3cf43 TJx3cf43 0
theorem nmJx3cf43 : ∀ a, a < 0 → ∀ b, b < 0 → a ≠ b → (TJx3cf43 a).2.1 ≠ (TJx3cf43 b).2.1 := by decide +kernel
theorem tyJx3cf43_ok : ∀ k, k < 0 → parseFieldDescriptor (TJx3cf43 k).2.2.1 = some (tyJx3cf43 k) := by decide +kernel
def RJ7 : String := "java/util/Arrays"
def TJ7 : u_T := fun k => match k with
  | _ => ("", "", "", false)
def tyJ7 : Nat → FieldType := fun k => match k with
  | _ => .int
abbrev wsJ70 : List Cond := u_ws RJ7 TJ7 0
theorem nmJ7 : ∀ a, a < 0 → ∀ b, b < 0 → a ≠ b → (TJ7 a).2.1 ≠ (TJ7 b).2.1 := by decide +kernel
theorem tyJ7_ok : ∀ k, k < 0 → parseFieldDescriptor (TJ7 k).2.2.1 = some (tyJ7 k) := by decide +kernel
abbrev cJ7_fill_d0a16 : ByteArray := prog_19_method_101_code
def yJ7_fill_d0a16 : MethodName := ⟨RJ7, "fill", "([JJ)V"⟩
def RJ3 : String := "jdk/internal/util/Preconditions"
def TJ3 : u_T := fun k => match k with
  | _ => ("", "", "", false)
def tyJ3 : Nat → FieldType := fun k => match k with
  | _ => .int
abbrev wsJ30 : List Cond := u_ws RJ3 TJ3 0
theorem nmJ3 : ∀ a, a < 0 → ∀ b, b < 0 → a ≠ b → (TJ3 a).2.1 ≠ (TJ3 b).2.1 := by decide +kernel
theorem tyJ3_ok : ∀ k, k < 0 → parseFieldDescriptor (TJ3 k).2.2.1 = some (tyJ3 k) := by decide +kernel
abbrev cJ3_checkIndex_8e157 : ByteArray := prog_20_method_11_code
def yJ3_checkIndex_8e157 : MethodName := ⟨RJ3, "checkIndex", "(IILjava/util/function/BiFunction;)I"⟩
def RL : String := "RunColumnsLaw"
abbrev cL_law : ByteArray := code
def yL_law : MethodName := ⟨RL, "law", "([I)Z"⟩
abbrev vwCl : List vw_C := [(RX0, TX0, 2), (RX1, TX1, 3), (RX2, TX2, 4), (RX3, TX3, 5), (RX4, TX4, 4), (RX5, TX5, 2), (RX6, TX6, 6), (RX7, TX7, 3), (RX8, TX8, 4), (RX9, TX9, 12), (RX10, TX10, 23)]
