-- ===== PART A: goes FIRST, ahead of the names: the tables' words, and 'selects' of the private methods out of them =====
/-- a private method of a class that the tables say can be made, by its rows of tables_1 -/
def lw_okq (q : MethodName × Nat) : Prop := (q.1.cls ≠ "java/lang/invoke/MethodHandle" ∧ q.1.cls ≠ "java/lang/invoke/VarHandle") ∧ Cond.instantiable q.1.cls q.2 ∈ tables_1 ∧ Cond.privateMethod q.1 ∈ tables_1 ∧ Cond.instanceMethod q.1 ∈ tables_1
theorem lw_p0 : lw_okq (⟨"WatershedMap$Land", "findNeighbours", "(II)V"⟩, 6) := ⟨⟨by decide +kernel, by decide +kernel⟩, List.mem_of_getElem? (i := 38) (by decide +kernel), List.mem_of_getElem? (i := 237) (by decide +kernel), List.mem_of_getElem? (i := 238) (by decide +kernel)⟩
theorem lw_p1 : lw_okq (⟨"WatershedMap$Hollows", "findLevels", "()V"⟩, 5) := ⟨⟨by decide +kernel, by decide +kernel⟩, List.mem_of_getElem? (i := 127) (by decide +kernel), List.mem_of_getElem? (i := 302) (by decide +kernel), List.mem_of_getElem? (i := 303) (by decide +kernel)⟩
theorem lw_p2 : lw_okq (⟨"WatershedMap$Hollows", "spread", "(I)V"⟩, 5) := ⟨⟨by decide +kernel, by decide +kernel⟩, List.mem_of_getElem? (i := 127) (by decide +kernel), List.mem_of_getElem? (i := 322) (by decide +kernel), List.mem_of_getElem? (i := 323) (by decide +kernel)⟩
theorem lw_p3 : lw_okq (⟨"WatershedMap$Hollows", "inLake", "(I)Z"⟩, 5) := ⟨⟨by decide +kernel, by decide +kernel⟩, List.mem_of_getElem? (i := 127) (by decide +kernel), List.mem_of_getElem? (i := 334) (by decide +kernel), List.mem_of_getElem? (i := 335) (by decide +kernel)⟩
theorem lw_p4 : lw_okq (⟨"WatershedMap$Hollows", "depth", "(I)I"⟩, 5) := ⟨⟨by decide +kernel, by decide +kernel⟩, List.mem_of_getElem? (i := 127) (by decide +kernel), List.mem_of_getElem? (i := 338) (by decide +kernel), List.mem_of_getElem? (i := 339) (by decide +kernel)⟩
theorem lw_p5 : lw_okq (⟨"WatershedMap$Hollows", "joinLakes", "(II)V"⟩, 5) := ⟨⟨by decide +kernel, by decide +kernel⟩, List.mem_of_getElem? (i := 127) (by decide +kernel), List.mem_of_getElem? (i := 342) (by decide +kernel), List.mem_of_getElem? (i := 343) (by decide +kernel)⟩
theorem lw_p6 : lw_okq (⟨"WatershedMap$Streams", "chooseDirection", "(I)V"⟩, 12) := ⟨⟨by decide +kernel, by decide +kernel⟩, List.mem_of_getElem? (i := 78) (by decide +kernel), List.mem_of_getElem? (i := 366) (by decide +kernel), List.mem_of_getElem? (i := 367) (by decide +kernel)⟩
theorem lw_p7 : lw_okq (⟨"WatershedMap$Streams", "putInOrder", "()V"⟩, 12) := ⟨⟨by decide +kernel, by decide +kernel⟩, List.mem_of_getElem? (i := 78) (by decide +kernel), List.mem_of_getElem? (i := 375) (by decide +kernel), List.mem_of_getElem? (i := 376) (by decide +kernel)⟩
theorem lw_p8 : lw_okq (⟨"WatershedMap$Streams", "putNext", "(I)V"⟩, 12) := ⟨⟨by decide +kernel, by decide +kernel⟩, List.mem_of_getElem? (i := 78) (by decide +kernel), List.mem_of_getElem? (i := 380) (by decide +kernel), List.mem_of_getElem? (i := 381) (by decide +kernel)⟩
theorem lw_p9 : lw_okq (⟨"WatershedMap$Streams", "passDown", "(II)V"⟩, 12) := ⟨⟨by decide +kernel, by decide +kernel⟩, List.mem_of_getElem? (i := 78) (by decide +kernel), List.mem_of_getElem? (i := 384) (by decide +kernel), List.mem_of_getElem? (i := 385) (by decide +kernel)⟩
theorem lw_p10 : lw_okq (⟨"WatershedMap$Streams", "findEnd", "(I)V"⟩, 12) := ⟨⟨by decide +kernel, by decide +kernel⟩, List.mem_of_getElem? (i := 78) (by decide +kernel), List.mem_of_getElem? (i := 389) (by decide +kernel), List.mem_of_getElem? (i := 390) (by decide +kernel)⟩
theorem lw_p11 : lw_okq (⟨"WatershedMap$Land", "steepnessOf", "(I)I"⟩, 6) := ⟨⟨by decide +kernel, by decide +kernel⟩, List.mem_of_getElem? (i := 38) (by decide +kernel), List.mem_of_getElem? (i := 433) (by decide +kernel), List.mem_of_getElem? (i := 434) (by decide +kernel)⟩
theorem lw_p12 : lw_okq (⟨"WatershedMap", "digestOfMap", "(J)J"⟩, 8) := ⟨⟨by decide +kernel, by decide +kernel⟩, List.mem_of_getElem? (i := 30) (by decide +kernel), List.mem_of_getElem? (i := 450) (by decide +kernel), List.mem_of_getElem? (i := 451) (by decide +kernel)⟩
theorem lw_p13 : lw_okq (⟨"WatershedMap$Land", "lowest", "()I"⟩, 6) := ⟨⟨by decide +kernel, by decide +kernel⟩, List.mem_of_getElem? (i := 38) (by decide +kernel), List.mem_of_getElem? (i := 459) (by decide +kernel), List.mem_of_getElem? (i := 460) (by decide +kernel)⟩
theorem lw_p14 : lw_okq (⟨"WatershedMap$Land", "sum", "()I"⟩, 6) := ⟨⟨by decide +kernel, by decide +kernel⟩, List.mem_of_getElem? (i := 38) (by decide +kernel), List.mem_of_getElem? (i := 470) (by decide +kernel), List.mem_of_getElem? (i := 471) (by decide +kernel)⟩
theorem lw_p15 : lw_okq (⟨"WatershedMap$Contours", "drawSquare", "(III)V"⟩, 6) := ⟨⟨by decide +kernel, by decide +kernel⟩, List.mem_of_getElem? (i := 174) (by decide +kernel), List.mem_of_getElem? (i := 483) (by decide +kernel), List.mem_of_getElem? (i := 484) (by decide +kernel)⟩
def lw_privs_1 : List (MethodName × Nat) := [(⟨"WatershedMap$Land", "findNeighbours", "(II)V"⟩, 6), (⟨"WatershedMap$Hollows", "findLevels", "()V"⟩, 5), (⟨"WatershedMap$Hollows", "spread", "(I)V"⟩, 5), (⟨"WatershedMap$Hollows", "inLake", "(I)Z"⟩, 5), (⟨"WatershedMap$Hollows", "depth", "(I)I"⟩, 5), (⟨"WatershedMap$Hollows", "joinLakes", "(II)V"⟩, 5), (⟨"WatershedMap$Streams", "chooseDirection", "(I)V"⟩, 12), (⟨"WatershedMap$Streams", "putInOrder", "()V"⟩, 12), (⟨"WatershedMap$Streams", "putNext", "(I)V"⟩, 12), (⟨"WatershedMap$Streams", "passDown", "(II)V"⟩, 12), (⟨"WatershedMap$Streams", "findEnd", "(I)V"⟩, 12), (⟨"WatershedMap$Land", "steepnessOf", "(I)I"⟩, 6), (⟨"WatershedMap", "digestOfMap", "(J)J"⟩, 8), (⟨"WatershedMap$Land", "lowest", "()I"⟩, 6), (⟨"WatershedMap$Land", "sum", "()I"⟩, 6), (⟨"WatershedMap$Contours", "drawSquare", "(III)V"⟩, 6)]
theorem lw_r1 : ∀ q ∈ lw_privs_1, lw_okq q := List.forall_mem_cons.mpr ⟨lw_p0, List.forall_mem_cons.mpr ⟨lw_p1, List.forall_mem_cons.mpr ⟨lw_p2, List.forall_mem_cons.mpr ⟨lw_p3, List.forall_mem_cons.mpr ⟨lw_p4, List.forall_mem_cons.mpr ⟨lw_p5, List.forall_mem_cons.mpr ⟨lw_p6, List.forall_mem_cons.mpr ⟨lw_p7, List.forall_mem_cons.mpr ⟨lw_p8, List.forall_mem_cons.mpr ⟨lw_p9, List.forall_mem_cons.mpr ⟨lw_p10, List.forall_mem_cons.mpr ⟨lw_p11, List.forall_mem_cons.mpr ⟨lw_p12, List.forall_mem_cons.mpr ⟨lw_p13, List.forall_mem_cons.mpr ⟨lw_p14, List.forall_mem_cons.mpr ⟨lw_p15, fun _ h => absurd h List.not_mem_nil⟩⟩⟩⟩⟩⟩⟩⟩⟩⟩⟩⟩⟩⟩⟩⟩
theorem lw_p16 : lw_okq (⟨"WatershedMap$Contours", "sumOfSquare", "(II)I"⟩, 6) := ⟨⟨by decide +kernel, by decide +kernel⟩, List.mem_of_getElem? (i := 174) (by decide +kernel), List.mem_of_getElem? (i := 493) (by decide +kernel), List.mem_of_getElem? (i := 494) (by decide +kernel)⟩
theorem lw_p17 : lw_okq (⟨"WatershedMap$Contours", "addPiece", "(II)V"⟩, 6) := ⟨⟨by decide +kernel, by decide +kernel⟩, List.mem_of_getElem? (i := 174) (by decide +kernel), List.mem_of_getElem? (i := 497) (by decide +kernel), List.mem_of_getElem? (i := 498) (by decide +kernel)⟩
theorem lw_p18 : lw_okq (⟨"WatershedMap$Contours", "tie", "(II)V"⟩, 6) := ⟨⟨by decide +kernel, by decide +kernel⟩, List.mem_of_getElem? (i := 174) (by decide +kernel), List.mem_of_getElem? (i := 501) (by decide +kernel), List.mem_of_getElem? (i := 502) (by decide +kernel)⟩
theorem lw_p19 : lw_okq (⟨"WatershedMap", "digestOfFields", "(J)J"⟩, 8) := ⟨⟨by decide +kernel, by decide +kernel⟩, List.mem_of_getElem? (i := 30) (by decide +kernel), List.mem_of_getElem? (i := 510) (by decide +kernel), List.mem_of_getElem? (i := 511) (by decide +kernel)⟩
theorem lw_p20 : lw_okq (⟨"java/lang/Throwable", "fillInStackTrace", "(I)Ljava/lang/Throwable;"⟩, 6) := ⟨⟨by decide +kernel, by decide +kernel⟩, List.mem_of_getElem? (i := 566) (by decide +kernel), List.mem_of_getElem? (i := 564) (by decide +kernel), List.mem_of_getElem? (i := 565) (by decide +kernel)⟩
theorem lw_p21 : lw_okq (⟨"WatershedMap", "checkField", "(II)V"⟩, 8) := ⟨⟨by decide +kernel, by decide +kernel⟩, List.mem_of_getElem? (i := 30) (by decide +kernel), List.mem_of_getElem? (i := 604) (by decide +kernel), List.mem_of_getElem? (i := 605) (by decide +kernel)⟩
theorem lw_p22 : lw_okq (⟨"WatershedMap$Hollows", "inOneLake", "(II)Z"⟩, 5) := ⟨⟨by decide +kernel, by decide +kernel⟩, List.mem_of_getElem? (i := 127) (by decide +kernel), List.mem_of_getElem? (i := 727) (by decide +kernel), List.mem_of_getElem? (i := 728) (by decide +kernel)⟩
theorem lw_p23 : lw_okq (⟨"WatershedMap$Ways", "spread", "(I)V"⟩, 3) := ⟨⟨by decide +kernel, by decide +kernel⟩, List.mem_of_getElem? (i := 211) (by decide +kernel), List.mem_of_getElem? (i := 785) (by decide +kernel), List.mem_of_getElem? (i := 786) (by decide +kernel)⟩
theorem lw_p24 : lw_okq (⟨"WatershedMap$Ways", "step", "(III)I"⟩, 3) := ⟨⟨by decide +kernel, by decide +kernel⟩, List.mem_of_getElem? (i := 211) (by decide +kernel), List.mem_of_getElem? (i := 790) (by decide +kernel), List.mem_of_getElem? (i := 791) (by decide +kernel)⟩
theorem lw_p25 : lw_okq (⟨"WatershedMap$Ways", "fieldAhead", "(I)I"⟩, 3) := ⟨⟨by decide +kernel, by decide +kernel⟩, List.mem_of_getElem? (i := 211) (by decide +kernel), List.mem_of_getElem? (i := 808) (by decide +kernel), List.mem_of_getElem? (i := 809) (by decide +kernel)⟩
theorem lw_p26 : lw_okq (⟨"WatershedMapModel", "start", "(ZI)Z"⟩, 3) := ⟨⟨by decide +kernel, by decide +kernel⟩, List.mem_of_getElem? (i := 836) (by decide +kernel), List.mem_of_getElem? (i := 882) (by decide +kernel), List.mem_of_getElem? (i := 883) (by decide +kernel)⟩
theorem lw_p27 : lw_okq (⟨"WatershedMapModel", "refuse", "(ZI)Z"⟩, 3) := ⟨⟨by decide +kernel, by decide +kernel⟩, List.mem_of_getElem? (i := 836) (by decide +kernel), List.mem_of_getElem? (i := 886) (by decide +kernel), List.mem_of_getElem? (i := 887) (by decide +kernel)⟩
theorem lw_p28 : lw_okq (⟨"WatershedMapModel", "isNoField", "(II)Z"⟩, 3) := ⟨⟨by decide +kernel, by decide +kernel⟩, List.mem_of_getElem? (i := 836) (by decide +kernel), List.mem_of_getElem? (i := 894) (by decide +kernel), List.mem_of_getElem? (i := 895) (by decide +kernel)⟩
theorem lw_p29 : lw_okq (⟨"WatershedMapModel", "isNo", "(II)Z"⟩, 3) := ⟨⟨by decide +kernel, by decide +kernel⟩, List.mem_of_getElem? (i := 836) (by decide +kernel), List.mem_of_getElem? (i := 898) (by decide +kernel), List.mem_of_getElem? (i := 899) (by decide +kernel)⟩
theorem lw_p30 : lw_okq (⟨"WatershedMapModel", "number", "(II)I"⟩, 3) := ⟨⟨by decide +kernel, by decide +kernel⟩, List.mem_of_getElem? (i := 836) (by decide +kernel), List.mem_of_getElem? (i := 902) (by decide +kernel), List.mem_of_getElem? (i := 903) (by decide +kernel)⟩
theorem lw_p31 : lw_okq (⟨"WatershedMapModel", "take", "([I)I"⟩, 3) := ⟨⟨by decide +kernel, by decide +kernel⟩, List.mem_of_getElem? (i := 836) (by decide +kernel), List.mem_of_getElem? (i := 930) (by decide +kernel), List.mem_of_getElem? (i := 931) (by decide +kernel)⟩
def lw_privs_2 : List (MethodName × Nat) := [(⟨"WatershedMap$Contours", "sumOfSquare", "(II)I"⟩, 6), (⟨"WatershedMap$Contours", "addPiece", "(II)V"⟩, 6), (⟨"WatershedMap$Contours", "tie", "(II)V"⟩, 6), (⟨"WatershedMap", "digestOfFields", "(J)J"⟩, 8), (⟨"java/lang/Throwable", "fillInStackTrace", "(I)Ljava/lang/Throwable;"⟩, 6), (⟨"WatershedMap", "checkField", "(II)V"⟩, 8), (⟨"WatershedMap$Hollows", "inOneLake", "(II)Z"⟩, 5), (⟨"WatershedMap$Ways", "spread", "(I)V"⟩, 3), (⟨"WatershedMap$Ways", "step", "(III)I"⟩, 3), (⟨"WatershedMap$Ways", "fieldAhead", "(I)I"⟩, 3), (⟨"WatershedMapModel", "start", "(ZI)Z"⟩, 3), (⟨"WatershedMapModel", "refuse", "(ZI)Z"⟩, 3), (⟨"WatershedMapModel", "isNoField", "(II)Z"⟩, 3), (⟨"WatershedMapModel", "isNo", "(II)Z"⟩, 3), (⟨"WatershedMapModel", "number", "(II)I"⟩, 3), (⟨"WatershedMapModel", "take", "([I)I"⟩, 3)]
theorem lw_r2 : ∀ q ∈ lw_privs_2, lw_okq q := List.forall_mem_cons.mpr ⟨lw_p16, List.forall_mem_cons.mpr ⟨lw_p17, List.forall_mem_cons.mpr ⟨lw_p18, List.forall_mem_cons.mpr ⟨lw_p19, List.forall_mem_cons.mpr ⟨lw_p20, List.forall_mem_cons.mpr ⟨lw_p21, List.forall_mem_cons.mpr ⟨lw_p22, List.forall_mem_cons.mpr ⟨lw_p23, List.forall_mem_cons.mpr ⟨lw_p24, List.forall_mem_cons.mpr ⟨lw_p25, List.forall_mem_cons.mpr ⟨lw_p26, List.forall_mem_cons.mpr ⟨lw_p27, List.forall_mem_cons.mpr ⟨lw_p28, List.forall_mem_cons.mpr ⟨lw_p29, List.forall_mem_cons.mpr ⟨lw_p30, List.forall_mem_cons.mpr ⟨lw_p31, fun _ h => absurd h List.not_mem_nil⟩⟩⟩⟩⟩⟩⟩⟩⟩⟩⟩⟩⟩⟩⟩⟩
theorem lw_p32 : lw_okq (⟨"WatershedMapModel", "of", "(I)I"⟩, 3) := ⟨⟨by decide +kernel, by decide +kernel⟩, List.mem_of_getElem? (i := 836) (by decide +kernel), List.mem_of_getElem? (i := 1021) (by decide +kernel), List.mem_of_getElem? (i := 1022) (by decide +kernel)⟩
theorem lw_p33 : lw_okq (⟨"WatershedMapModel", "water", "(II[I[I)I"⟩, 3) := ⟨⟨by decide +kernel, by decide +kernel⟩, List.mem_of_getElem? (i := 836) (by decide +kernel), List.mem_of_getElem? (i := 1041) (by decide +kernel), List.mem_of_getElem? (i := 1042) (by decide +kernel)⟩
theorem lw_p34 : lw_okq (⟨"WatershedMapModel", "many", "(I)I"⟩, 3) := ⟨⟨by decide +kernel, by decide +kernel⟩, List.mem_of_getElem? (i := 836) (by decide +kernel), List.mem_of_getElem? (i := 1061) (by decide +kernel), List.mem_of_getElem? (i := 1062) (by decide +kernel)⟩
theorem lw_p35 : lw_okq (⟨"WatershedMapModel", "plain", "(I)I"⟩, 3) := ⟨⟨by decide +kernel, by decide +kernel⟩, List.mem_of_getElem? (i := 836) (by decide +kernel), List.mem_of_getElem? (i := 1065) (by decide +kernel), List.mem_of_getElem? (i := 1066) (by decide +kernel)⟩
theorem lw_p36 : lw_okq (⟨"WatershedMapModel", "mostRankNow", "()I"⟩, 3) := ⟨⟨by decide +kernel, by decide +kernel⟩, List.mem_of_getElem? (i := 836) (by decide +kernel), List.mem_of_getElem? (i := 1077) (by decide +kernel), List.mem_of_getElem? (i := 1078) (by decide +kernel)⟩
theorem lw_p37 : lw_okq (⟨"WatershedMapModel", "longestNow", "()I"⟩, 3) := ⟨⟨by decide +kernel, by decide +kernel⟩, List.mem_of_getElem? (i := 836) (by decide +kernel), List.mem_of_getElem? (i := 1085) (by decide +kernel), List.mem_of_getElem? (i := 1086) (by decide +kernel)⟩
theorem lw_p38 : lw_okq (⟨"WatershedMapModel", "lakesNow", "()I"⟩, 3) := ⟨⟨by decide +kernel, by decide +kernel⟩, List.mem_of_getElem? (i := 836) (by decide +kernel), List.mem_of_getElem? (i := 1097) (by decide +kernel), List.mem_of_getElem? (i := 1098) (by decide +kernel)⟩
theorem lw_p39 : lw_okq (⟨"WatershedMapModel$Land", "isHigh", "(II)Z"⟩, 3) := ⟨⟨by decide +kernel, by decide +kernel⟩, List.mem_of_getElem? (i := 842) (by decide +kernel), List.mem_of_getElem? (i := 1151) (by decide +kernel), List.mem_of_getElem? (i := 1152) (by decide +kernel)⟩
theorem lw_p40 : lw_okq (⟨"java/util/ArrayList", "add", "(Ljava/lang/Object;[Ljava/lang/Object;I)V"⟩, 3) := ⟨⟨by decide +kernel, by decide +kernel⟩, List.mem_of_getElem? (i := 1125) (by decide +kernel), List.mem_of_getElem? (i := 1179) (by decide +kernel), List.mem_of_getElem? (i := 1180) (by decide +kernel)⟩
theorem lw_p41 : lw_okq (⟨"java/util/ArrayList", "grow", "()[Ljava/lang/Object;"⟩, 3) := ⟨⟨by decide +kernel, by decide +kernel⟩, List.mem_of_getElem? (i := 1125) (by decide +kernel), List.mem_of_getElem? (i := 1183) (by decide +kernel), List.mem_of_getElem? (i := 1184) (by decide +kernel)⟩
theorem lw_p42 : lw_okq (⟨"java/util/ArrayList", "grow", "(I)[Ljava/lang/Object;"⟩, 3) := ⟨⟨by decide +kernel, by decide +kernel⟩, List.mem_of_getElem? (i := 1125) (by decide +kernel), List.mem_of_getElem? (i := 1187) (by decide +kernel), List.mem_of_getElem? (i := 1188) (by decide +kernel)⟩
theorem lw_p43 : lw_okq (⟨"WatershedMapModel$Land", "step", "(III)I"⟩, 3) := ⟨⟨by decide +kernel, by decide +kernel⟩, List.mem_of_getElem? (i := 842) (by decide +kernel), List.mem_of_getElem? (i := 1288) (by decide +kernel), List.mem_of_getElem? (i := 1289) (by decide +kernel)⟩
def lw_privs_3 : List (MethodName × Nat) := [(⟨"WatershedMapModel", "of", "(I)I"⟩, 3), (⟨"WatershedMapModel", "water", "(II[I[I)I"⟩, 3), (⟨"WatershedMapModel", "many", "(I)I"⟩, 3), (⟨"WatershedMapModel", "plain", "(I)I"⟩, 3), (⟨"WatershedMapModel", "mostRankNow", "()I"⟩, 3), (⟨"WatershedMapModel", "longestNow", "()I"⟩, 3), (⟨"WatershedMapModel", "lakesNow", "()I"⟩, 3), (⟨"WatershedMapModel$Land", "isHigh", "(II)Z"⟩, 3), (⟨"java/util/ArrayList", "add", "(Ljava/lang/Object;[Ljava/lang/Object;I)V"⟩, 3), (⟨"java/util/ArrayList", "grow", "()[Ljava/lang/Object;"⟩, 3), (⟨"java/util/ArrayList", "grow", "(I)[Ljava/lang/Object;"⟩, 3), (⟨"WatershedMapModel$Land", "step", "(III)I"⟩, 3)]
theorem lw_r3 : ∀ q ∈ lw_privs_3, lw_okq q := List.forall_mem_cons.mpr ⟨lw_p32, List.forall_mem_cons.mpr ⟨lw_p33, List.forall_mem_cons.mpr ⟨lw_p34, List.forall_mem_cons.mpr ⟨lw_p35, List.forall_mem_cons.mpr ⟨lw_p36, List.forall_mem_cons.mpr ⟨lw_p37, List.forall_mem_cons.mpr ⟨lw_p38, List.forall_mem_cons.mpr ⟨lw_p39, List.forall_mem_cons.mpr ⟨lw_p40, List.forall_mem_cons.mpr ⟨lw_p41, List.forall_mem_cons.mpr ⟨lw_p42, List.forall_mem_cons.mpr ⟨lw_p43, fun _ h => absurd h List.not_mem_nil⟩⟩⟩⟩⟩⟩⟩⟩⟩⟩⟩⟩
def lw_privs : List (MethodName × Nat) := lw_privs_1 ++ (lw_privs_2 ++ (lw_privs_3))
def lw_tbl : List Cond := k2_sels lw_privs ++ tables_1
theorem lw_privs_ok : ∀ q ∈ lw_privs, lw_okq q := by
  show ∀ q ∈ lw_privs_1 ++ (lw_privs_2 ++ (lw_privs_3)), lw_okq q
  exact List.forall_mem_append.mpr ⟨lw_r1, List.forall_mem_append.mpr ⟨lw_r2, lw_r3⟩⟩
/-- the streams that the claim lets the run draw from -/
abbrev lw_cs : List Choice := [Jvm.Choice.named "NaN.bits"]
theorem lw_bits : nanBits ∈ lw_cs := by first | decide | exact List.mem_cons_self | simp [lw_cs, nanBits]

-- the pure machine: tables, by program (wip/p1/gen01.py)
def mj_u : Value := .retAddr 0
abbrev mj_I : Type := Instr × Nat × Nat × Nat × Nat × Value
def mj_T0 : u_T := fun k => match k with
  | 0 => ("WatershedMap$Contours", "land", "LWatershedMap$Land;", true)
  | 1 => ("WatershedMap$Contours", "pieceAt", "[I", true)
  | 2 => ("WatershedMap$Contours", "groups", "LWatershedMap$Groups;", true)
  | 3 => ("WatershedMap$Contours", "pieces", "I", false)
  | 4 => ("WatershedMap$Contours", "lines", "I", false)
  | _ => ("WatershedMap$Contours", "closed", "I", false)
def mj_T1 : u_T := fun k => match k with
  | 0 => ("WatershedMap$Frontier", "members", "[I", true)
  | _ => ("WatershedMap$Frontier", "size", "I", false)
def mj_T2 : u_T := fun k => match k with
  | _ => ("WatershedMap$Groups", "leaders", "[I", true)
def mj_T3 : u_T := fun k => match k with
  | 0 => ("WatershedMap$Hollows", "land", "LWatershedMap$Land;", true)
  | 1 => ("WatershedMap$Hollows", "levels", "[I", true)
  | 2 => ("WatershedMap$Hollows", "frontier", "LWatershedMap$Frontier;", true)
  | 3 => ("WatershedMap$Hollows", "groups", "LWatershedMap$Groups;", true)
  | _ => ("WatershedMap$Hollows", "lakeCount", "I", false)
def mj_T4 : u_T := fun k => match k with
  | 0 => ("WatershedMap$Land", "heights", "[I", true)
  | 1 => ("WatershedMap$Land", "after", "[I", true)
  | 2 => ("WatershedMap$Land", "neighbours", "[I", true)
  | 3 => ("WatershedMap$Land", "w", "I", false)
  | 4 => ("WatershedMap$Land", "h", "I", false)
  | _ => ("WatershedMap$Land", "fields", "I", false)
def mj_T5 : u_T := fun k => match k with
  | _ => ("WatershedMap$Sight", "land", "LWatershedMap$Land;", true)
def mj_T6 : u_T := fun k => match k with
  | 0 => ("WatershedMap$Streams", "land", "LWatershedMap$Land;", true)
  | 1 => ("WatershedMap$Streams", "directions", "[I", true)
  | 2 => ("WatershedMap$Streams", "next", "[I", true)
  | 3 => ("WatershedMap$Streams", "flows", "[I", true)
  | 4 => ("WatershedMap$Streams", "ends", "[I", true)
  | 5 => ("WatershedMap$Streams", "distances", "[I", true)
  | 6 => ("WatershedMap$Streams", "ranks", "[I", true)
  | 7 => ("WatershedMap$Streams", "lengths", "[I", true)
  | 8 => ("WatershedMap$Streams", "awaited", "[I", true)
  | 9 => ("WatershedMap$Streams", "shared", "[Z", true)
  | 10 => ("WatershedMap$Streams", "order", "[I", true)
  | _ => ("WatershedMap$Streams", "ordered", "I", false)
def mj_T7 : u_T := fun k => match k with
  | 0 => ("WatershedMap$Ways", "land", "LWatershedMap$Land;", true)
  | 1 => ("WatershedMap$Ways", "least", "[I", true)
  | _ => ("WatershedMap$Ways", "frontier", "LWatershedMap$Frontier;", true)
def mj_T8 : u_T := fun k => match k with
  | 0 => ("WatershedMap", "land", "LWatershedMap$Land;", true)
  | 1 => ("WatershedMap", "streams", "LWatershedMap$Streams;", true)
  | 2 => ("WatershedMap", "hollows", "LWatershedMap$Hollows;", true)
  | 3 => ("WatershedMap", "contours", "LWatershedMap$Contours;", true)
  | 4 => ("WatershedMap", "sight", "LWatershedMap$Sight;", true)
  | 5 => ("WatershedMap", "ways", "LWatershedMap$Ways;", true)
  | 6 => ("WatershedMap", "endsBefore", "[I", true)
  | _ => ("WatershedMap", "brook", "I", false)
def mj_T9 : u_T := fun k => match k with
  | 0 => ("WatershedMapModel$Land", "w", "I", true)
  | 1 => ("WatershedMapModel$Land", "h", "I", true)
  | _ => ("WatershedMapModel$Land", "heights", "[I", true)
def mj_T10 : u_T := fun k => match k with
  | 0 => ("WatershedMapModel", "thrown", "I", false)
  | 1 => ("WatershedMapModel", "land", "LWatershedMapModel$Land;", false)
  | _ => ("WatershedMapModel", "brook", "I", false)
def mj_T11 : u_T := fun k => match k with
  | 0 => ("java/util/AbstractList", "modCount", "I", false)
  | 1 => ("java/util/ArrayList", "elementData", "[Ljava/lang/Object;", false)
  | _ => ("java/util/ArrayList", "size", "I", false)
abbrev mj_cl : List vw_C := [("WatershedMap$Contours", mj_T0, 6), ("WatershedMap$Frontier", mj_T1, 2), ("WatershedMap$Groups", mj_T2, 1), ("WatershedMap$Hollows", mj_T3, 5), ("WatershedMap$Land", mj_T4, 6), ("WatershedMap$Sight", mj_T5, 1), ("WatershedMap$Streams", mj_T6, 12), ("WatershedMap$Ways", mj_T7, 3), ("WatershedMap", mj_T8, 8), ("WatershedMapModel$Land", mj_T9, 3), ("WatershedMapModel", mj_T10, 3), ("java/util/ArrayList", mj_T11, 3)]
/-- the fields of a class as they are when it is made -/
def mj_df : List (List Value) := [[.null, .null, .null, .int 0, .int 0, .int 0], [.null, .int 0], [.null], [.null, .null, .null, .null, .int 0], [.null, .null, .null, .int 0, .int 0, .int 0], [.null], [.null, .null, .null, .null, .null, .null, .null, .null, .null, .null, .null, .int 0], [.null, .null, .null], [.null, .null, .null, .null, .null, .null, .null, .int 0], [.int 0, .int 0, .null], [.int 0, .null, .int 0], [.int 0, .null, .int 0]]
/-- where the tables say that a class can be made, is initialised -/
def mj_np : List (Nat × Nat) := [(218, 51), (177, 49), (190, 50), (171, 48), (82, 46), (245, 52), (122, 47), (255, 53), (74, 45), (886, 56), (880, 55), (1169, 65)]
/-- where the tables lay a field -/
def mj_lp : List (List Nat) := [[231, 233, 235, 237, 239, 241], [184, 186], [196], [206, 208, 210, 212, 214], [107, 109, 111, 113, 115, 117], [251], [144, 146, 148, 150, 152, 154, 156, 158, 160, 162, 164, 166], [266, 268, 270], [304, 306, 308, 310, 312, 314, 316, 318], [897, 899, 901], [907, 909, 911], [1191, 1187, 1189]]
def mj_cn : List String := ["WatershedMap$Contours", "WatershedMap$Frontier", "WatershedMap$Groups", "WatershedMap$Hollows", "WatershedMap$Land", "WatershedMap$Sight", "WatershedMap$Streams", "WatershedMap$Ways", "WatershedMap", "WatershedMapModel$Land", "WatershedMapModel", "java/util/ArrayList", "java/lang/Math", "java/util/Arrays", "WatershedMapLaw", "java/util/AbstractList", "java/util/AbstractCollection"]
def mj_ob1 : Nat := 79
def mj_ob2 : Nat := 80
/-- where the tables speak of System.arraycopy: native, static, its class initialised -/
def mj_acp : Nat × Nat × Nat := (871, 870, 70)
def mj_NE : Nat := 7
/-- the kinds of arrays that are made -/
def mj_tyl : List FieldType := [.int, .boolean, .long]
def mj_typ : List Nat := [120, 169, 1373]
/-- the static arrays, by their places among the cells -/
def mj_st : List (String × String × String) := [("WatershedMap", "STEP_X", "[I"), ("WatershedMap", "STEP_Y", "[I"), ("WatershedMap", "DIGEST_CONTOURS", "[I"), ("WatershedMapModel", "RIGHT", "[I"), ("WatershedMapModel", "UP", "[I"), ("java/util/ArrayList", "DEFAULTCAPACITY_EMPTY_ELEMENTDATA", "[Ljava/lang/Object;")]
/-- what the static arrays hold -/
def mj_s0 : Nat → Int32 := fun j => [1, 1, 0, (-1), (-1), (-1), 0, 1].getD j 0
def mj_s1 : Nat → Int32 := fun j => [0, 1, 1, 1, 0, (-1), (-1), (-1)].getD j 0
def mj_s2 : Nat → Int32 := fun j => [100, 200, 400].getD j 0
def mj_s3 : Nat → Int32 := fun j => [1, 1, 0, (-1), (-1), (-1), 0, 1].getD j 0
def mj_s4 : Nat → Int32 := fun j => [0, 1, 1, 1, 0, (-1), (-1), (-1)].getD j 0
/-- the cells that stand ahead of the class: static arrays, the script -/
def mj_pre (xs : Nat → Int32) (L : Nat) (r : List ((FieldType × vp_A) ⊕ (Nat × List Value))) : List ((FieldType × vp_A) ⊕ (Nat × List Value)) := .inl (.int, 8, .inl mj_s0) :: .inl (.int, 8, .inl mj_s1) :: .inl (.int, 3, .inl mj_s2) :: .inl (.int, 8, .inl mj_s3) :: .inl (.int, 8, .inl mj_s4) :: .inr (9999, []) :: .inl (.int, L, .inl xs) :: r
def mj_sl : List Nat := [8, 8, 3, 8, 8, 0]
def mj_nest : List Cond := [(Jvm.Cond.methodLinkNest "WatershedMap" (9 : Nat) ({ cls := "WatershedMap$Land", name := "<init>", desc := "()V" } : Jvm.MethodName) "WatershedMap"), (Jvm.Cond.methodLinkNest "WatershedMap$Hollows" (17 : Nat) ({ cls := "WatershedMap$Frontier", name := "<init>", desc := "()V" } : Jvm.MethodName) "WatershedMap"), (Jvm.Cond.methodLinkNest "WatershedMap$Hollows" (24 : Nat) ({ cls := "WatershedMap$Groups", name := "<init>", desc := "()V" } : Jvm.MethodName) "WatershedMap"), (Jvm.Cond.methodLinkNest "WatershedMap$Contours" (17 : Nat) ({ cls := "WatershedMap$Groups", name := "<init>", desc := "()V" } : Jvm.MethodName) "WatershedMap"), (Jvm.Cond.methodLinkNest "WatershedMap$Ways" (17 : Nat) ({ cls := "WatershedMap$Frontier", name := "<init>", desc := "()V" } : Jvm.MethodName) "WatershedMap"), (Jvm.Cond.fieldLinkNest "WatershedMap$Land" (41 : Nat) "WatershedMap" "STEP_X" "[I" "WatershedMap"), (Jvm.Cond.fieldLinkNest "WatershedMap$Land" (44 : Nat) "WatershedMap" "STEP_Y" "[I" "WatershedMap"), (Jvm.Cond.fieldLinkNest "WatershedMapModel$Land" (22 : Nat) "WatershedMapModel" "RIGHT" "[I" "WatershedMapModel"), (Jvm.Cond.fieldLinkNest "WatershedMapModel$Land" (25 : Nat) "WatershedMapModel" "UP" "[I" "WatershedMapModel"), (Jvm.Cond.castable "[I" "java/lang/Cloneable")]
def mj_nestp : List Nat := [83, 178, 191, 224, 261, 284, 286, 1017, 1019, 958]
def mj_ys : List MethodName := [⟨"WatershedMap", "<init>", "()V"⟩,
  ⟨"WatershedMap$Land", "<init>", "()V"⟩,
  ⟨"WatershedMap$Streams", "<init>", "(LWatershedMap$Land;)V"⟩,
  ⟨"WatershedMap$Hollows", "<init>", "(LWatershedMap$Land;)V"⟩,
  ⟨"WatershedMap$Frontier", "<init>", "()V"⟩,
  ⟨"WatershedMap$Groups", "<init>", "()V"⟩,
  ⟨"WatershedMap$Contours", "<init>", "(LWatershedMap$Land;)V"⟩,
  ⟨"WatershedMap$Sight", "<init>", "(LWatershedMap$Land;)V"⟩,
  ⟨"WatershedMap$Ways", "<init>", "(LWatershedMap$Land;)V"⟩,
  ⟨"WatershedMap$Land", "layOut", "(II)V"⟩,
  ⟨"java/util/Arrays", "fill", "([II)V"⟩,
  ⟨"WatershedMap$Land", "findNeighbours", "(II)V"⟩,
  ⟨"WatershedMap$Land", "numberOf", "(II)I"⟩,
  ⟨"WatershedMap$Land", "has", "(II)Z"⟩,
  ⟨"WatershedMap", "smooth", "()I"⟩,
  ⟨"WatershedMap$Land", "soften", "()I"⟩,
  ⟨"WatershedMap$Land", "neighbour", "(II)I"⟩,
  ⟨"WatershedMap$Land", "exchange", "(II)I"⟩,
  ⟨"WatershedMap", "fill", "()I"⟩,
  ⟨"WatershedMap$Hollows", "find", "()V"⟩,
  ⟨"WatershedMap$Hollows", "findLevels", "()V"⟩,
  ⟨"WatershedMap$Frontier", "clear", "()V"⟩,
  ⟨"WatershedMap$Land", "atEdge", "(I)Z"⟩,
  ⟨"WatershedMap$Frontier", "add", "(I)V"⟩,
  ⟨"WatershedMap$Frontier", "takeLeast", "([I)I"⟩,
  ⟨"WatershedMap$Hollows", "spread", "(I)V"⟩,
  ⟨"java/lang/Math", "max", "(II)I"⟩,
  ⟨"WatershedMap$Groups", "part", "()V"⟩,
  ⟨"WatershedMap$Hollows", "inLake", "(I)Z"⟩,
  ⟨"WatershedMap$Hollows", "depth", "(I)I"⟩,
  ⟨"WatershedMap$Hollows", "joinLakes", "(II)V"⟩,
  ⟨"WatershedMap$Groups", "join", "(II)Z"⟩,
  ⟨"WatershedMap$Groups", "leaderOf", "(I)I"⟩,
  ⟨"WatershedMap$Land", "raiseTo", "([I)I"⟩,
  ⟨"WatershedMap", "basins", "()I"⟩,
  ⟨"WatershedMap$Streams", "run", "(I)V"⟩,
  ⟨"WatershedMap$Streams", "chooseDirection", "(I)V"⟩,
  ⟨"WatershedMap$Land", "slanted", "(I)Z"⟩,
  ⟨"WatershedMap$Streams", "putInOrder", "()V"⟩,
  ⟨"WatershedMap$Streams", "putNext", "(I)V"⟩,
  ⟨"WatershedMap$Streams", "passDown", "(II)V"⟩,
  ⟨"WatershedMap$Streams", "findEnd", "(I)V"⟩,
  ⟨"WatershedMap$Streams", "count", "(I)I"⟩,
  ⟨"WatershedMap", "pits", "()I"⟩,
  ⟨"WatershedMap", "mostRank", "()I"⟩,
  ⟨"WatershedMap$Streams", "greatestOf", "([I)I"⟩,
  ⟨"WatershedMap", "longestStream", "()I"⟩,
  ⟨"WatershedMap", "lakes", "()I"⟩,
  ⟨"WatershedMap", "volume", "()I"⟩,
  ⟨"WatershedMap$Hollows", "content", "()I"⟩,
  ⟨"WatershedMap", "steepness", "()D"⟩,
  ⟨"WatershedMap$Land", "meanSteepness", "()D"⟩,
  ⟨"WatershedMap$Land", "steepnessOf", "(I)I"⟩,
  ⟨"WatershedMap$Land", "difference", "(II)I"⟩,
  ⟨"java/lang/Math", "abs", "(I)I"⟩,
  ⟨"WatershedMap", "digest", "()J"⟩,
  ⟨"WatershedMap", "digestOfMap", "(J)J"⟩,
  ⟨"WatershedMap$Land", "told", "(I)I"⟩,
  ⟨"WatershedMap$Land", "lowest", "()I"⟩,
  ⟨"java/lang/Math", "min", "(II)I"⟩,
  ⟨"WatershedMap$Land", "greatest", "()I"⟩,
  ⟨"WatershedMap$Land", "sum", "()I"⟩,
  ⟨"WatershedMap$Contours", "draw", "(I)V"⟩,
  ⟨"WatershedMap$Contours", "drawSquare", "(III)V"⟩,
  ⟨"WatershedMap$Contours", "sideRightOf", "(I)I"⟩,
  ⟨"WatershedMap$Contours", "sideBelow", "(I)I"⟩,
  ⟨"WatershedMap$Contours", "sumOfSquare", "(II)I"⟩,
  ⟨"WatershedMap$Contours", "addPiece", "(II)V"⟩,
  ⟨"WatershedMap$Contours", "tie", "(II)V"⟩,
  ⟨"WatershedMap$Contours", "told", "(I)I"⟩,
  ⟨"WatershedMap", "digestOfFields", "(J)J"⟩,
  ⟨"WatershedMap$Streams", "told", "(II)I"⟩,
  ⟨"WatershedMap", "reset", "(II)I"⟩,
  ⟨"WatershedMap", "checkRange", "(III)V"⟩,
  ⟨"WatershedMap", "set", "(III)I"⟩,
  ⟨"WatershedMap", "checkField", "(II)V"⟩,
  ⟨"WatershedMap", "tilt", "(III)I"⟩,
  ⟨"WatershedMap$Land", "slope", "(III)V"⟩,
  ⟨"WatershedMap", "hill", "(IIII)I"⟩,
  ⟨"WatershedMap$Land", "raise", "(IIII)I"⟩,
  ⟨"WatershedMap", "dig", "(IIIII)I"⟩,
  ⟨"WatershedMap$Land", "cutDown", "(IIIII)I"⟩,
  ⟨"WatershedMap$Land", "stepsBetween", "(IIII)I"⟩,
  ⟨"WatershedMap$Land", "between", "(IIII)I"⟩,
  ⟨"java/lang/Math", "floorDiv", "(II)I"⟩,
  ⟨"WatershedMap", "wear", "(I)I"⟩,
  ⟨"WatershedMap$Land", "washAway", "(LWatershedMap$Streams;I)I"⟩,
  ⟨"WatershedMap", "setBrook", "(I)I"⟩,
  ⟨"WatershedMap", "map", "(I)I"⟩,
  ⟨"WatershedMap", "height", "(II)I"⟩,
  ⟨"WatershedMap", "water", "(III)I"⟩,
  ⟨"WatershedMap", "level", "(II)I"⟩,
  ⟨"WatershedMap", "lake", "(III)I"⟩,
  ⟨"WatershedMap$Hollows", "sizeOfLake", "(I)I"⟩,
  ⟨"WatershedMap$Hollows", "inOneLake", "(II)Z"⟩,
  ⟨"WatershedMap$Hollows", "contentOfLake", "(I)I"⟩,
  ⟨"WatershedMap", "contour", "(II)I"⟩,
  ⟨"WatershedMap", "sees", "(IIIII)Z"⟩,
  ⟨"WatershedMap$Sight", "reaches", "(IIIII)Z"⟩,
  ⟨"WatershedMap", "seen", "(III)I"⟩,
  ⟨"WatershedMap$Sight", "countFrom", "(III)I"⟩,
  ⟨"WatershedMap", "takes", "(IIII)I"⟩,
  ⟨"WatershedMap$Ways", "spreadFrom", "(I)V"⟩,
  ⟨"WatershedMap$Ways", "spread", "(I)V"⟩,
  ⟨"WatershedMap$Ways", "step", "(III)I"⟩,
  ⟨"WatershedMap", "way", "(IIIII)I"⟩,
  ⟨"WatershedMap$Ways", "goBack", "(III)I"⟩,
  ⟨"WatershedMap$Ways", "fieldAhead", "(I)I"⟩,
  ⟨"WatershedMap", "volumeWith", "(III)I"⟩,
  ⟨"WatershedMap", "endsWith", "(III)I"⟩,
  ⟨"WatershedMap", "lookout", "(II)I"⟩,
  ⟨"WatershedMapModel", "<init>", "()V"⟩,
  ⟨"WatershedMapModel$Land", "<init>", "(II[I)V"⟩,
  ⟨"WatershedMapModel", "thrown", "()I"⟩,
  ⟨"WatershedMapModel", "reset", "(II)I"⟩,
  ⟨"WatershedMapModel", "isIn", "(III)Z"⟩,
  ⟨"WatershedMapModel", "start", "(ZI)Z"⟩,
  ⟨"WatershedMapModel", "refuse", "(ZI)Z"⟩,
  ⟨"WatershedMapModel", "set", "(III)I"⟩,
  ⟨"WatershedMapModel", "isNoField", "(II)Z"⟩,
  ⟨"WatershedMapModel", "isNo", "(II)Z"⟩,
  ⟨"WatershedMapModel", "number", "(II)I"⟩,
  ⟨"WatershedMapModel$Land", "with", "(II)LWatershedMapModel$Land;"⟩,
  ⟨"WatershedMapModel", "tilt", "(III)I"⟩,
  ⟨"WatershedMapModel", "bound", "(I)I"⟩,
  ⟨"WatershedMapModel", "take", "([I)I"⟩,
  ⟨"WatershedMapModel$Land", "others", "([I)I"⟩,
  ⟨"WatershedMapModel$Land", "size", "()I"⟩,
  ⟨"WatershedMapModel$Land", "greatest", "()I"⟩,
  ⟨"WatershedMapModel", "hill", "(IIII)I"⟩,
  ⟨"WatershedMapModel", "dig", "(IIIII)I"⟩,
  ⟨"WatershedMapModel$Land", "far", "(II)I"⟩,
  ⟨"WatershedMapModel$Land", "between", "(III)I"⟩,
  ⟨"WatershedMapModel", "smooth", "()I"⟩,
  ⟨"WatershedMapModel$Land", "next", "(II)I"⟩,
  ⟨"WatershedMapModel", "wear", "(I)I"⟩,
  ⟨"WatershedMapModel$Land", "to", "()[I"⟩,
  ⟨"WatershedMapModel$Land", "goes", "(I)I"⟩,
  ⟨"WatershedMapModel$Land", "isEdge", "(I)Z"⟩,
  ⟨"WatershedMapModel$Land", "flows", "([I)[I"⟩,
  ⟨"WatershedMapModel", "fill", "()I"⟩,
  ⟨"WatershedMapModel$Land", "volume", "()I"⟩,
  ⟨"WatershedMapModel$Land", "levels", "()[I"⟩,
  ⟨"WatershedMapModel", "setBrook", "(I)I"⟩,
  ⟨"WatershedMapModel", "map", "(I)I"⟩,
  ⟨"WatershedMapModel", "of", "(I)I"⟩,
  ⟨"WatershedMapModel$Land", "least", "()I"⟩,
  ⟨"WatershedMapModel$Land", "sum", "()I"⟩,
  ⟨"WatershedMapModel", "height", "(II)I"⟩,
  ⟨"WatershedMapModel", "water", "(III)I"⟩,
  ⟨"WatershedMapModel", "water", "(II[I[I)I"⟩,
  ⟨"WatershedMapModel$Land", "end", "([II)I"⟩,
  ⟨"WatershedMapModel$Land", "rank", "([I[III)I"⟩,
  ⟨"WatershedMapModel$Land", "steps", "([II)I"⟩,
  ⟨"WatershedMapModel", "basins", "()I"⟩,
  ⟨"WatershedMapModel", "many", "(I)I"⟩,
  ⟨"WatershedMapModel", "plain", "(I)I"⟩,
  ⟨"WatershedMapModel", "pits", "()I"⟩,
  ⟨"WatershedMapModel", "mostRank", "()I"⟩,
  ⟨"WatershedMapModel", "mostRankNow", "()I"⟩,
  ⟨"WatershedMapModel", "longestStream", "()I"⟩,
  ⟨"WatershedMapModel", "longestNow", "()I"⟩,
  ⟨"WatershedMapModel", "level", "(II)I"⟩,
  ⟨"WatershedMapModel", "lakes", "()I"⟩,
  ⟨"WatershedMapModel", "lakesNow", "()I"⟩,
  ⟨"WatershedMapModel$Land", "lakes", "()[I"⟩,
  ⟨"WatershedMapModel", "lake", "(III)I"⟩,
  ⟨"WatershedMapModel", "volume", "()I"⟩,
  ⟨"WatershedMapModel", "contour", "(II)I"⟩,
  ⟨"WatershedMapModel$Land", "contour", "(I)[I"⟩,
  ⟨"WatershedMapModel$Land", "pieces", "(I)Ljava/util/ArrayList;"⟩,
  ⟨"java/util/ArrayList", "<init>", "()V"⟩,
  ⟨"java/util/AbstractList", "<init>", "()V"⟩,
  ⟨"java/util/AbstractCollection", "<init>", "()V"⟩,
  ⟨"WatershedMapModel$Land", "isHigh", "(II)Z"⟩,
  ⟨"java/util/ArrayList", "size", "()I"⟩,
  ⟨"WatershedMapModel$Land", "haveOne", "([I[I)Z"⟩,
  ⟨"WatershedMapModel$Land", "isTwice", "(Ljava/util/ArrayList;I)Z"⟩,
  ⟨"WatershedMapModel", "sees", "(IIIII)Z"⟩,
  ⟨"WatershedMapModel$Land", "sees", "(III)Z"⟩,
  ⟨"WatershedMapModel", "seen", "(III)I"⟩,
  ⟨"WatershedMapModel$Land", "seen", "(II)I"⟩,
  ⟨"WatershedMapModel", "takes", "(IIII)I"⟩,
  ⟨"WatershedMapModel$Land", "takes", "(I)[I"⟩,
  ⟨"WatershedMapModel$Land", "step", "(III)I"⟩,
  ⟨"WatershedMapModel", "way", "(IIIII)I"⟩,
  ⟨"WatershedMapModel$Land", "way", "(III)I"⟩,
  ⟨"WatershedMapModel", "steepness", "()D"⟩,
  ⟨"WatershedMapModel$Land", "steepness", "()D"⟩,
  ⟨"WatershedMapModel", "volumeWith", "(III)I"⟩,
  ⟨"WatershedMapModel", "endsWith", "(III)I"⟩,
  ⟨"WatershedMapModel", "lookout", "(II)I"⟩,
  ⟨"WatershedMapModel", "digest", "()J"⟩,
  ⟨"WatershedMapModel", "add", "(JJ)J"⟩]
-- name, bytes, locals, answer, own class, parameters, places of: code, instanceMethod or static, selects (instance methods), initialized
abbrev mj_M : Type := Nat × ByteArray × Nat × Option FieldType × Nat × Nat × Nat × Nat × Nat × Nat × Nat × (Nat → Option mj_I)
/-- WatershedMap.<init>()V -/
def k_W_init : Nat → Option mj_I := fun pc =>
  bif Nat.blt pc 57 then (bif Nat.blt pc 27 then (bif Nat.blt pc 12 then (bif Nat.blt pc 5 then (bif Nat.blt pc 1 then (bif Nat.beq pc 0 then some (.aload_n 0, 1, 0, 0, 0, mj_u) else none) else
      (bif Nat.blt pc 4 then (bif Nat.beq pc 1 then some (.invokespecial 1, 3, 1000, 0, 78, mj_u) else none) else
       (bif Nat.beq pc 4 then some (.aload_n 0, 1, 0, 0, 0, mj_u) else none))) else
     (bif Nat.blt pc 8 then (bif Nat.beq pc 5 then some (.new 7, 3, 4, 82, 81, mj_u) else none) else
      (bif Nat.blt pc 9 then (bif Nat.beq pc 8 then some (.dup, 1, 0, 0, 0, mj_u) else none) else
       (bif Nat.beq pc 9 then some (.invokespecial 9, 3, 1, 1, 83, mj_u) else none)))) else
    (bif Nat.blt pc 19 then (bif Nat.blt pc 15 then (bif Nat.beq pc 12 then some (.putfield 10, 3, 8, 0, 296, .null) else none) else
      (bif Nat.blt pc 16 then (bif Nat.beq pc 15 then some (.aload_n 0, 1, 0, 0, 0, mj_u) else none) else
       (bif Nat.beq pc 16 then some (.new 16, 3, 6, 122, 121, mj_u) else none))) else
     (bif Nat.blt pc 21 then (bif Nat.blt pc 20 then (bif Nat.beq pc 19 then some (.dup, 1, 0, 0, 0, mj_u) else none) else
       (bif Nat.beq pc 20 then some (.aload_n 0, 1, 0, 0, 0, mj_u) else none)) else
      (bif Nat.blt pc 24 then (bif Nat.beq pc 21 then some (.getfield 10, 3, 8, 0, 296, .null) else none) else
       (bif Nat.beq pc 24 then some (.invokespecial 18, 3, 2, 0, 123, mj_u) else none))))) else
   (bif Nat.blt pc 42 then (bif Nat.blt pc 34 then (bif Nat.blt pc 30 then (bif Nat.beq pc 27 then some (.putfield 21, 3, 8, 1, 297, .null) else none) else
      (bif Nat.blt pc 31 then (bif Nat.beq pc 30 then some (.aload_n 0, 1, 0, 0, 0, mj_u) else none) else
       (bif Nat.beq pc 31 then some (.new 25, 3, 3, 171, 170, mj_u) else none))) else
     (bif Nat.blt pc 36 then (bif Nat.blt pc 35 then (bif Nat.beq pc 34 then some (.dup, 1, 0, 0, 0, mj_u) else none) else
       (bif Nat.beq pc 35 then some (.aload_n 0, 1, 0, 0, 0, mj_u) else none)) else
      (bif Nat.blt pc 39 then (bif Nat.beq pc 36 then some (.getfield 10, 3, 8, 0, 296, .null) else none) else
       (bif Nat.beq pc 39 then some (.invokespecial 27, 3, 3, 0, 172, mj_u) else none)))) else
    (bif Nat.blt pc 49 then (bif Nat.blt pc 45 then (bif Nat.beq pc 42 then some (.putfield 28, 3, 8, 2, 298, .null) else none) else
      (bif Nat.blt pc 46 then (bif Nat.beq pc 45 then some (.aload_n 0, 1, 0, 0, 0, mj_u) else none) else
       (bif Nat.beq pc 46 then some (.new 32, 3, 0, 218, 217, mj_u) else none))) else
     (bif Nat.blt pc 51 then (bif Nat.blt pc 50 then (bif Nat.beq pc 49 then some (.dup, 1, 0, 0, 0, mj_u) else none) else
       (bif Nat.beq pc 50 then some (.aload_n 0, 1, 0, 0, 0, mj_u) else none)) else
      (bif Nat.blt pc 54 then (bif Nat.beq pc 51 then some (.getfield 10, 3, 8, 0, 296, .null) else none) else
       (bif Nat.beq pc 54 then some (.invokespecial 34, 3, 6, 0, 219, mj_u) else none)))))) else
  (bif Nat.blt pc 87 then (bif Nat.blt pc 72 then (bif Nat.blt pc 64 then (bif Nat.blt pc 60 then (bif Nat.beq pc 57 then some (.putfield 35, 3, 8, 3, 299, .null) else none) else
      (bif Nat.blt pc 61 then (bif Nat.beq pc 60 then some (.aload_n 0, 1, 0, 0, 0, mj_u) else none) else
       (bif Nat.beq pc 61 then some (.new 39, 3, 5, 245, 244, mj_u) else none))) else
     (bif Nat.blt pc 66 then (bif Nat.blt pc 65 then (bif Nat.beq pc 64 then some (.dup, 1, 0, 0, 0, mj_u) else none) else
       (bif Nat.beq pc 65 then some (.aload_n 0, 1, 0, 0, 0, mj_u) else none)) else
      (bif Nat.blt pc 69 then (bif Nat.beq pc 66 then some (.getfield 10, 3, 8, 0, 296, .null) else none) else
       (bif Nat.beq pc 69 then some (.invokespecial 41, 3, 7, 0, 246, mj_u) else none)))) else
    (bif Nat.blt pc 79 then (bif Nat.blt pc 75 then (bif Nat.beq pc 72 then some (.putfield 42, 3, 8, 4, 300, .null) else none) else
      (bif Nat.blt pc 76 then (bif Nat.beq pc 75 then some (.aload_n 0, 1, 0, 0, 0, mj_u) else none) else
       (bif Nat.beq pc 76 then some (.new 46, 3, 7, 255, 254, mj_u) else none))) else
     (bif Nat.blt pc 81 then (bif Nat.blt pc 80 then (bif Nat.beq pc 79 then some (.dup, 1, 0, 0, 0, mj_u) else none) else
       (bif Nat.beq pc 80 then some (.aload_n 0, 1, 0, 0, 0, mj_u) else none)) else
      (bif Nat.blt pc 84 then (bif Nat.beq pc 81 then some (.getfield 10, 3, 8, 0, 296, .null) else none) else
       (bif Nat.beq pc 84 then some (.invokespecial 48, 3, 8, 0, 256, mj_u) else none))))) else
   (bif Nat.blt pc 101 then (bif Nat.blt pc 94 then (bif Nat.blt pc 90 then (bif Nat.beq pc 87 then some (.putfield 49, 3, 8, 5, 301, .null) else none) else
      (bif Nat.blt pc 91 then (bif Nat.beq pc 90 then some (.aload_n 0, 1, 0, 0, 0, mj_u) else none) else
       (bif Nat.beq pc 91 then some (.sipush 256, 3, 0, 0, 0, .int 256) else none))) else
     (bif Nat.blt pc 99 then (bif Nat.blt pc 96 then (bif Nat.beq pc 94 then some (.newarray .int, 2, 0, 0, 0, mj_u) else none) else
       (bif Nat.beq pc 96 then some (.putfield 53, 3, 8, 6, 302, .null) else none)) else
      (bif Nat.blt pc 100 then (bif Nat.beq pc 99 then some (.aload_n 0, 1, 0, 0, 0, mj_u) else none) else
       (bif Nat.beq pc 100 then some (.iconst 5, 1, 0, 0, 0, .int 5) else none)))) else
    (bif Nat.blt pc 108 then (bif Nat.blt pc 104 then (bif Nat.beq pc 101 then some (.putfield 57, 3, 8, 7, 303, .int 0) else none) else
      (bif Nat.blt pc 105 then (bif Nat.beq pc 104 then some (.aload_n 0, 1, 0, 0, 0, mj_u) else none) else
       (bif Nat.beq pc 105 then some (.getfield 10, 3, 8, 0, 296, .null) else none))) else
     (bif Nat.blt pc 112 then (bif Nat.blt pc 110 then (bif Nat.beq pc 108 then some (.bipush 12, 2, 0, 0, 0, .int 12) else none) else
       (bif Nat.beq pc 110 then some (.bipush 12, 2, 0, 0, 0, .int 12) else none)) else
      (bif Nat.blt pc 115 then (bif Nat.beq pc 112 then some (.invokevirtual 61, 3, 9, 0, 273, mj_u) else none) else
       (bif Nat.beq pc 115 then some (.return_, 1, 0, 0, 0, mj_u) else none))))))
def m_W_init : mj_M := (0, prog_1_method_1_code, 1, (Option.none : Option Jvm.ClassFile.FieldType), 8, 0, 77, 76, 0, 45, 116, k_W_init)
/-- WatershedMap$Land.<init>()V -/
def k_Land_init : Nat → Option mj_I := fun pc =>
  bif Nat.blt pc 14 then (bif Nat.blt pc 5 then (bif Nat.blt pc 1 then (bif Nat.beq pc 0 then some (.aload_n 0, 1, 0, 0, 0, mj_u) else none) else
    (bif Nat.blt pc 4 then (bif Nat.beq pc 1 then some (.invokespecial 3, 3, 1000, 0, 86, mj_u) else none) else
     (bif Nat.beq pc 4 then some (.aload_n 0, 1, 0, 0, 0, mj_u) else none))) else
   (bif Nat.blt pc 10 then (bif Nat.blt pc 8 then (bif Nat.beq pc 5 then some (.sipush 256, 3, 0, 0, 0, .int 256) else none) else
     (bif Nat.beq pc 8 then some (.newarray .int, 2, 0, 0, 0, mj_u) else none)) else
    (bif Nat.blt pc 13 then (bif Nat.beq pc 10 then some (.putfield 9, 3, 4, 0, 87, .null) else none) else
     (bif Nat.beq pc 13 then some (.aload_n 0, 1, 0, 0, 0, mj_u) else none)))) else
  (bif Nat.blt pc 23 then (bif Nat.blt pc 19 then (bif Nat.blt pc 17 then (bif Nat.beq pc 14 then some (.sipush 256, 3, 0, 0, 0, .int 256) else none) else
     (bif Nat.beq pc 17 then some (.newarray .int, 2, 0, 0, 0, mj_u) else none)) else
    (bif Nat.blt pc 22 then (bif Nat.beq pc 19 then some (.putfield 15, 3, 4, 1, 93, .null) else none) else
     (bif Nat.beq pc 22 then some (.aload_n 0, 1, 0, 0, 0, mj_u) else none))) else
   (bif Nat.blt pc 28 then (bif Nat.blt pc 26 then (bif Nat.beq pc 23 then some (.sipush 2048, 3, 0, 0, 0, .int 2048) else none) else
     (bif Nat.beq pc 26 then some (.newarray .int, 2, 0, 0, 0, mj_u) else none)) else
    (bif Nat.blt pc 31 then (bif Nat.beq pc 28 then some (.putfield 18, 3, 4, 2, 94, .null) else none) else
     (bif Nat.beq pc 31 then some (.return_, 1, 0, 0, 0, mj_u) else none))))
def m_Land_init : mj_M := (1, prog_6_method_1_code, 1, (Option.none : Option Jvm.ClassFile.FieldType), 4, 0, 85, 84, 0, 46, 32, k_Land_init)
/-- WatershedMap$Streams.<init>(LWatershedMap$Land;)V -/
def k_Streams_init : Nat → Option mj_I := fun pc =>
  bif Nat.blt pc 50 then (bif Nat.blt pc 23 then (bif Nat.blt pc 10 then (bif Nat.blt pc 4 then (bif Nat.blt pc 1 then (bif Nat.beq pc 0 then some (.aload_n 0, 1, 0, 0, 0, mj_u) else none) else
      (bif Nat.beq pc 1 then some (.invokespecial 3, 3, 1000, 0, 126, mj_u) else none)) else
     (bif Nat.blt pc 5 then (bif Nat.beq pc 4 then some (.aload_n 0, 1, 0, 0, 0, mj_u) else none) else
      (bif Nat.blt pc 8 then (bif Nat.beq pc 5 then some (.sipush 256, 3, 0, 0, 0, .int 256) else none) else
       (bif Nat.beq pc 8 then some (.newarray .int, 2, 0, 0, 0, mj_u) else none)))) else
    (bif Nat.blt pc 17 then (bif Nat.blt pc 13 then (bif Nat.beq pc 10 then some (.putfield 9, 3, 6, 1, 128, .null) else none) else
      (bif Nat.blt pc 14 then (bif Nat.beq pc 13 then some (.aload_n 0, 1, 0, 0, 0, mj_u) else none) else
       (bif Nat.beq pc 14 then some (.sipush 256, 3, 0, 0, 0, .int 256) else none))) else
     (bif Nat.blt pc 19 then (bif Nat.beq pc 17 then some (.newarray .int, 2, 0, 0, 0, mj_u) else none) else
      (bif Nat.blt pc 22 then (bif Nat.beq pc 19 then some (.putfield 15, 3, 6, 2, 129, .null) else none) else
       (bif Nat.beq pc 22 then some (.aload_n 0, 1, 0, 0, 0, mj_u) else none))))) else
   (bif Nat.blt pc 37 then (bif Nat.blt pc 31 then (bif Nat.blt pc 26 then (bif Nat.beq pc 23 then some (.sipush 256, 3, 0, 0, 0, .int 256) else none) else
      (bif Nat.blt pc 28 then (bif Nat.beq pc 26 then some (.newarray .int, 2, 0, 0, 0, mj_u) else none) else
       (bif Nat.beq pc 28 then some (.putfield 18, 3, 6, 3, 131, .null) else none))) else
     (bif Nat.blt pc 32 then (bif Nat.beq pc 31 then some (.aload_n 0, 1, 0, 0, 0, mj_u) else none) else
      (bif Nat.blt pc 35 then (bif Nat.beq pc 32 then some (.sipush 256, 3, 0, 0, 0, .int 256) else none) else
       (bif Nat.beq pc 35 then some (.newarray .int, 2, 0, 0, 0, mj_u) else none)))) else
    (bif Nat.blt pc 44 then (bif Nat.blt pc 40 then (bif Nat.beq pc 37 then some (.putfield 21, 3, 6, 4, 133, .null) else none) else
      (bif Nat.blt pc 41 then (bif Nat.beq pc 40 then some (.aload_n 0, 1, 0, 0, 0, mj_u) else none) else
       (bif Nat.beq pc 41 then some (.sipush 256, 3, 0, 0, 0, .int 256) else none))) else
     (bif Nat.blt pc 46 then (bif Nat.beq pc 44 then some (.newarray .int, 2, 0, 0, 0, mj_u) else none) else
      (bif Nat.blt pc 49 then (bif Nat.beq pc 46 then some (.putfield 24, 3, 6, 5, 135, .null) else none) else
       (bif Nat.beq pc 49 then some (.aload_n 0, 1, 0, 0, 0, mj_u) else none)))))) else
  (bif Nat.blt pc 76 then (bif Nat.blt pc 62 then (bif Nat.blt pc 55 then (bif Nat.blt pc 53 then (bif Nat.beq pc 50 then some (.sipush 256, 3, 0, 0, 0, .int 256) else none) else
      (bif Nat.beq pc 53 then some (.newarray .int, 2, 0, 0, 0, mj_u) else none)) else
     (bif Nat.blt pc 58 then (bif Nat.beq pc 55 then some (.putfield 27, 3, 6, 6, 136, .null) else none) else
      (bif Nat.blt pc 59 then (bif Nat.beq pc 58 then some (.aload_n 0, 1, 0, 0, 0, mj_u) else none) else
       (bif Nat.beq pc 59 then some (.sipush 256, 3, 0, 0, 0, .int 256) else none)))) else
    (bif Nat.blt pc 68 then (bif Nat.blt pc 64 then (bif Nat.beq pc 62 then some (.newarray .int, 2, 0, 0, 0, mj_u) else none) else
      (bif Nat.blt pc 67 then (bif Nat.beq pc 64 then some (.putfield 30, 3, 6, 7, 138, .null) else none) else
       (bif Nat.beq pc 67 then some (.aload_n 0, 1, 0, 0, 0, mj_u) else none))) else
     (bif Nat.blt pc 71 then (bif Nat.beq pc 68 then some (.sipush 256, 3, 0, 0, 0, .int 256) else none) else
      (bif Nat.blt pc 73 then (bif Nat.beq pc 71 then some (.newarray .int, 2, 0, 0, 0, mj_u) else none) else
       (bif Nat.beq pc 73 then some (.putfield 33, 3, 6, 8, 140, .null) else none))))) else
   (bif Nat.blt pc 89 then (bif Nat.blt pc 82 then (bif Nat.blt pc 77 then (bif Nat.beq pc 76 then some (.aload_n 0, 1, 0, 0, 0, mj_u) else none) else
      (bif Nat.blt pc 80 then (bif Nat.beq pc 77 then some (.sipush 256, 3, 0, 0, 0, .int 256) else none) else
       (bif Nat.beq pc 80 then some (.newarray .boolean, 2, 0, 0, 0, mj_u) else none))) else
     (bif Nat.blt pc 85 then (bif Nat.beq pc 82 then some (.putfield 36, 3, 6, 9, 141, .null) else none) else
      (bif Nat.blt pc 86 then (bif Nat.beq pc 85 then some (.aload_n 0, 1, 0, 0, 0, mj_u) else none) else
       (bif Nat.beq pc 86 then some (.sipush 256, 3, 0, 0, 0, .int 256) else none)))) else
    (bif Nat.blt pc 95 then (bif Nat.blt pc 91 then (bif Nat.beq pc 89 then some (.newarray .int, 2, 0, 0, 0, mj_u) else none) else
      (bif Nat.blt pc 94 then (bif Nat.beq pc 91 then some (.putfield 40, 3, 6, 10, 142, .null) else none) else
       (bif Nat.beq pc 94 then some (.aload_n 0, 1, 0, 0, 0, mj_u) else none))) else
     (bif Nat.blt pc 96 then (bif Nat.beq pc 95 then some (.aload_n 1, 1, 1, 0, 0, mj_u) else none) else
      (bif Nat.blt pc 99 then (bif Nat.beq pc 96 then some (.putfield 43, 3, 6, 0, 127, .null) else none) else
       (bif Nat.beq pc 99 then some (.return_, 1, 0, 0, 0, mj_u) else none))))))
def m_Streams_init : mj_M := (2, prog_8_method_1_code, 2, (Option.none : Option Jvm.ClassFile.FieldType), 6, 1, 125, 124, 0, 47, 100, k_Streams_init)
/-- WatershedMap$Hollows.<init>(LWatershedMap$Land;)V -/
def k_Hollows_init : Nat → Option mj_I := fun pc =>
  bif Nat.blt pc 21 then (bif Nat.blt pc 10 then (bif Nat.blt pc 4 then (bif Nat.blt pc 1 then (bif Nat.beq pc 0 then some (.aload_n 0, 1, 0, 0, 0, mj_u) else none) else
     (bif Nat.beq pc 1 then some (.invokespecial 3, 3, 1000, 0, 175, mj_u) else none)) else
    (bif Nat.blt pc 5 then (bif Nat.beq pc 4 then some (.aload_n 0, 1, 0, 0, 0, mj_u) else none) else
     (bif Nat.blt pc 8 then (bif Nat.beq pc 5 then some (.sipush 256, 3, 0, 0, 0, .int 256) else none) else
      (bif Nat.beq pc 8 then some (.newarray .int, 2, 0, 0, 0, mj_u) else none)))) else
   (bif Nat.blt pc 14 then (bif Nat.blt pc 13 then (bif Nat.beq pc 10 then some (.putfield 9, 3, 3, 1, 200, .null) else none) else
     (bif Nat.beq pc 13 then some (.aload_n 0, 1, 0, 0, 0, mj_u) else none)) else
    (bif Nat.blt pc 17 then (bif Nat.beq pc 14 then some (.new 15, 3, 1, 177, 176, mj_u) else none) else
     (bif Nat.blt pc 18 then (bif Nat.beq pc 17 then some (.dup, 1, 0, 0, 0, mj_u) else none) else
      (bif Nat.beq pc 18 then some (.invokespecial 17, 3, 4, 1, 178, mj_u) else none))))) else
  (bif Nat.blt pc 32 then (bif Nat.blt pc 25 then (bif Nat.blt pc 24 then (bif Nat.beq pc 21 then some (.putfield 18, 3, 3, 2, 202, .null) else none) else
     (bif Nat.beq pc 24 then some (.aload_n 0, 1, 0, 0, 0, mj_u) else none)) else
    (bif Nat.blt pc 28 then (bif Nat.beq pc 25 then some (.new 22, 3, 2, 190, 189, mj_u) else none) else
     (bif Nat.blt pc 29 then (bif Nat.beq pc 28 then some (.dup, 1, 0, 0, 0, mj_u) else none) else
      (bif Nat.beq pc 29 then some (.invokespecial 24, 3, 5, 1, 191, mj_u) else none)))) else
   (bif Nat.blt pc 36 then (bif Nat.blt pc 35 then (bif Nat.beq pc 32 then some (.putfield 25, 3, 3, 3, 203, .null) else none) else
     (bif Nat.beq pc 35 then some (.aload_n 0, 1, 0, 0, 0, mj_u) else none)) else
    (bif Nat.blt pc 37 then (bif Nat.beq pc 36 then some (.aload_n 1, 1, 1, 0, 0, mj_u) else none) else
     (bif Nat.blt pc 40 then (bif Nat.beq pc 37 then some (.putfield 29, 3, 3, 0, 199, .null) else none) else
      (bif Nat.beq pc 40 then some (.return_, 1, 0, 0, 0, mj_u) else none)))))
def m_Hollows_init : mj_M := (3, prog_5_method_1_code, 2, (Option.none : Option Jvm.ClassFile.FieldType), 3, 1, 174, 173, 0, 48, 41, k_Hollows_init)
/-- WatershedMap$Frontier.<init>()V -/
def k_Frontier_init : Nat → Option mj_I := fun pc =>
  bif Nat.blt pc 5 then (bif Nat.blt pc 1 then (bif Nat.beq pc 0 then some (.aload_n 0, 1, 0, 0, 0, mj_u) else none) else
   (bif Nat.blt pc 4 then (bif Nat.beq pc 1 then some (.invokespecial 3, 3, 1000, 0, 181, mj_u) else none) else
    (bif Nat.beq pc 4 then some (.aload_n 0, 1, 0, 0, 0, mj_u) else none))) else
  (bif Nat.blt pc 10 then (bif Nat.blt pc 8 then (bif Nat.beq pc 5 then some (.sipush 256, 3, 0, 0, 0, .int 256) else none) else
    (bif Nat.beq pc 8 then some (.newarray .int, 2, 0, 0, 0, mj_u) else none)) else
   (bif Nat.blt pc 13 then (bif Nat.beq pc 10 then some (.putfield 9, 3, 1, 0, 182, .null) else none) else
    (bif Nat.beq pc 13 then some (.return_, 1, 0, 0, 0, mj_u) else none)))
def m_Frontier_init : mj_M := (4, prog_3_method_1_code, 1, (Option.none : Option Jvm.ClassFile.FieldType), 1, 0, 180, 179, 0, 49, 14, k_Frontier_init)
/-- WatershedMap$Groups.<init>()V -/
def k_Groups_init : Nat → Option mj_I := fun pc =>
  bif Nat.blt pc 5 then (bif Nat.blt pc 1 then (bif Nat.beq pc 0 then some (.aload_n 0, 1, 0, 0, 0, mj_u) else none) else
   (bif Nat.blt pc 4 then (bif Nat.beq pc 1 then some (.invokespecial 3, 3, 1000, 0, 194, mj_u) else none) else
    (bif Nat.beq pc 4 then some (.aload_n 0, 1, 0, 0, 0, mj_u) else none))) else
  (bif Nat.blt pc 10 then (bif Nat.blt pc 8 then (bif Nat.beq pc 5 then some (.sipush 512, 3, 0, 0, 0, .int 512) else none) else
    (bif Nat.beq pc 8 then some (.newarray .int, 2, 0, 0, 0, mj_u) else none)) else
   (bif Nat.blt pc 13 then (bif Nat.beq pc 10 then some (.putfield 9, 3, 2, 0, 195, .null) else none) else
    (bif Nat.beq pc 13 then some (.return_, 1, 0, 0, 0, mj_u) else none)))
def m_Groups_init : mj_M := (5, prog_4_method_1_code, 1, (Option.none : Option Jvm.ClassFile.FieldType), 2, 0, 193, 192, 0, 50, 14, k_Groups_init)
/-- WatershedMap$Contours.<init>(LWatershedMap$Land;)V -/
def k_Contours_init : Nat → Option mj_I := fun pc =>
  bif Nat.blt pc 14 then (bif Nat.blt pc 5 then (bif Nat.blt pc 1 then (bif Nat.beq pc 0 then some (.aload_n 0, 1, 0, 0, 0, mj_u) else none) else
    (bif Nat.blt pc 4 then (bif Nat.beq pc 1 then some (.invokespecial 3, 3, 1000, 0, 222, mj_u) else none) else
     (bif Nat.beq pc 4 then some (.aload_n 0, 1, 0, 0, 0, mj_u) else none))) else
   (bif Nat.blt pc 10 then (bif Nat.blt pc 8 then (bif Nat.beq pc 5 then some (.sipush 512, 3, 0, 0, 0, .int 512) else none) else
     (bif Nat.beq pc 8 then some (.newarray .int, 2, 0, 0, 0, mj_u) else none)) else
    (bif Nat.blt pc 13 then (bif Nat.beq pc 10 then some (.putfield 9, 3, 0, 1, 226, .null) else none) else
     (bif Nat.beq pc 13 then some (.aload_n 0, 1, 0, 0, 0, mj_u) else none)))) else
  (bif Nat.blt pc 24 then (bif Nat.blt pc 18 then (bif Nat.blt pc 17 then (bif Nat.beq pc 14 then some (.new 15, 3, 2, 190, 223, mj_u) else none) else
     (bif Nat.beq pc 17 then some (.dup, 1, 0, 0, 0, mj_u) else none)) else
    (bif Nat.blt pc 21 then (bif Nat.beq pc 18 then some (.invokespecial 17, 3, 5, 1, 224, mj_u) else none) else
     (bif Nat.beq pc 21 then some (.putfield 18, 3, 0, 2, 227, .null) else none))) else
   (bif Nat.blt pc 26 then (bif Nat.blt pc 25 then (bif Nat.beq pc 24 then some (.aload_n 0, 1, 0, 0, 0, mj_u) else none) else
     (bif Nat.beq pc 25 then some (.aload_n 1, 1, 1, 0, 0, mj_u) else none)) else
    (bif Nat.blt pc 29 then (bif Nat.beq pc 26 then some (.putfield 22, 3, 0, 0, 225, .null) else none) else
     (bif Nat.beq pc 29 then some (.return_, 1, 0, 0, 0, mj_u) else none))))
def m_Contours_init : mj_M := (6, prog_2_method_1_code, 2, (Option.none : Option Jvm.ClassFile.FieldType), 0, 1, 221, 220, 0, 51, 30, k_Contours_init)
/-- WatershedMap$Sight.<init>(LWatershedMap$Land;)V -/
def k_Sight_init : Nat → Option mj_I := fun pc =>
  bif Nat.blt pc 5 then (bif Nat.blt pc 1 then (bif Nat.beq pc 0 then some (.aload_n 0, 1, 0, 0, 0, mj_u) else none) else
   (bif Nat.blt pc 4 then (bif Nat.beq pc 1 then some (.invokespecial 1, 3, 1000, 0, 249, mj_u) else none) else
    (bif Nat.beq pc 4 then some (.aload_n 0, 1, 0, 0, 0, mj_u) else none))) else
  (bif Nat.blt pc 6 then (bif Nat.beq pc 5 then some (.aload_n 1, 1, 1, 0, 0, mj_u) else none) else
   (bif Nat.blt pc 9 then (bif Nat.beq pc 6 then some (.putfield 7, 3, 5, 0, 250, .null) else none) else
    (bif Nat.beq pc 9 then some (.return_, 1, 0, 0, 0, mj_u) else none)))
def m_Sight_init : mj_M := (7, prog_7_method_1_code, 2, (Option.none : Option Jvm.ClassFile.FieldType), 5, 1, 248, 247, 0, 52, 10, k_Sight_init)
/-- WatershedMap$Ways.<init>(LWatershedMap$Land;)V -/
def k_Ways_init : Nat → Option mj_I := fun pc =>
  bif Nat.blt pc 14 then (bif Nat.blt pc 5 then (bif Nat.blt pc 1 then (bif Nat.beq pc 0 then some (.aload_n 0, 1, 0, 0, 0, mj_u) else none) else
    (bif Nat.blt pc 4 then (bif Nat.beq pc 1 then some (.invokespecial 3, 3, 1000, 0, 259, mj_u) else none) else
     (bif Nat.beq pc 4 then some (.aload_n 0, 1, 0, 0, 0, mj_u) else none))) else
   (bif Nat.blt pc 10 then (bif Nat.blt pc 8 then (bif Nat.beq pc 5 then some (.sipush 256, 3, 0, 0, 0, .int 256) else none) else
     (bif Nat.beq pc 8 then some (.newarray .int, 2, 0, 0, 0, mj_u) else none)) else
    (bif Nat.blt pc 13 then (bif Nat.beq pc 10 then some (.putfield 9, 3, 7, 1, 263, .null) else none) else
     (bif Nat.beq pc 13 then some (.aload_n 0, 1, 0, 0, 0, mj_u) else none)))) else
  (bif Nat.blt pc 24 then (bif Nat.blt pc 18 then (bif Nat.blt pc 17 then (bif Nat.beq pc 14 then some (.new 15, 3, 1, 177, 260, mj_u) else none) else
     (bif Nat.beq pc 17 then some (.dup, 1, 0, 0, 0, mj_u) else none)) else
    (bif Nat.blt pc 21 then (bif Nat.beq pc 18 then some (.invokespecial 17, 3, 4, 1, 261, mj_u) else none) else
     (bif Nat.beq pc 21 then some (.putfield 18, 3, 7, 2, 265, .null) else none))) else
   (bif Nat.blt pc 26 then (bif Nat.blt pc 25 then (bif Nat.beq pc 24 then some (.aload_n 0, 1, 0, 0, 0, mj_u) else none) else
     (bif Nat.beq pc 25 then some (.aload_n 1, 1, 1, 0, 0, mj_u) else none)) else
    (bif Nat.blt pc 29 then (bif Nat.beq pc 26 then some (.putfield 22, 3, 7, 0, 262, .null) else none) else
     (bif Nat.beq pc 29 then some (.return_, 1, 0, 0, 0, mj_u) else none))))
def m_Ways_init : mj_M := (8, prog_9_method_1_code, 2, (Option.none : Option Jvm.ClassFile.FieldType), 7, 1, 258, 257, 0, 53, 30, k_Ways_init)
/-- WatershedMap$Land.layOut(II)V -/
def k_Land_layOut : Nat → Option mj_I := fun pc =>
  bif Nat.blt pc 28 then (bif Nat.blt pc 13 then (bif Nat.blt pc 6 then (bif Nat.blt pc 2 then (bif Nat.blt pc 1 then (bif Nat.beq pc 0 then some (.aload_n 0, 1, 0, 0, 0, mj_u) else none) else
      (bif Nat.beq pc 1 then some (.iload_n 1, 1, 1, 0, 0, mj_u) else none)) else
     (bif Nat.blt pc 5 then (bif Nat.beq pc 2 then some (.putfield 21, 3, 4, 3, 95, .int 0) else none) else
      (bif Nat.beq pc 5 then some (.aload_n 0, 1, 0, 0, 0, mj_u) else none))) else
    (bif Nat.blt pc 10 then (bif Nat.blt pc 7 then (bif Nat.beq pc 6 then some (.iload_n 2, 1, 2, 0, 0, mj_u) else none) else
      (bif Nat.beq pc 7 then some (.putfield 25, 3, 4, 4, 99, .int 0) else none)) else
     (bif Nat.blt pc 11 then (bif Nat.beq pc 10 then some (.aload_n 0, 1, 0, 0, 0, mj_u) else none) else
      (bif Nat.blt pc 12 then (bif Nat.beq pc 11 then some (.iload_n 1, 1, 1, 0, 0, mj_u) else none) else
       (bif Nat.beq pc 12 then some (.iload_n 2, 1, 2, 0, 0, mj_u) else none))))) else
   (bif Nat.blt pc 21 then (bif Nat.blt pc 17 then (bif Nat.blt pc 14 then (bif Nat.beq pc 13 then some (.imul, 1, 0, 0, 0, mj_u) else none) else
      (bif Nat.beq pc 14 then some (.putfield 28, 3, 4, 5, 103, .int 0) else none)) else
     (bif Nat.blt pc 18 then (bif Nat.beq pc 17 then some (.aload_n 0, 1, 0, 0, 0, mj_u) else none) else
      (bif Nat.beq pc 18 then some (.getfield 9, 3, 4, 0, 87, .null) else none))) else
    (bif Nat.blt pc 25 then (bif Nat.blt pc 22 then (bif Nat.beq pc 21 then some (.iconst 0, 1, 0, 0, 0, .int 0) else none) else
      (bif Nat.beq pc 22 then some (.invokestatic 31, 3, 10, 0, 277, mj_u) else none)) else
     (bif Nat.blt pc 26 then (bif Nat.beq pc 25 then some (.iconst 0, 1, 0, 0, 0, .int 0) else none) else
      (bif Nat.blt pc 27 then (bif Nat.beq pc 26 then some (.istore_n 3, 1, 3, 0, 0, mj_u) else none) else
       (bif Nat.beq pc 27 then some (.iload_n 3, 1, 3, 0, 0, mj_u) else none)))))) else
  (bif Nat.blt pc 47 then (bif Nat.blt pc 36 then (bif Nat.blt pc 32 then (bif Nat.blt pc 29 then (bif Nat.beq pc 28 then some (.aload_n 0, 1, 0, 0, 0, mj_u) else none) else
      (bif Nat.beq pc 29 then some (.getfield 25, 3, 4, 4, 99, .int 0) else none)) else
     (bif Nat.blt pc 35 then (bif Nat.beq pc 32 then some (.if_icmp .ge 34, 3, 66, 0, 0, mj_u) else none) else
      (bif Nat.beq pc 35 then some (.iconst 0, 1, 0, 0, 0, .int 0) else none))) else
    (bif Nat.blt pc 40 then (bif Nat.blt pc 38 then (bif Nat.beq pc 36 then some (.istore 4, 2, 4, 0, 0, mj_u) else none) else
      (bif Nat.beq pc 38 then some (.iload 4, 2, 4, 0, 0, mj_u) else none)) else
     (bif Nat.blt pc 41 then (bif Nat.beq pc 40 then some (.aload_n 0, 1, 0, 0, 0, mj_u) else none) else
      (bif Nat.blt pc 44 then (bif Nat.beq pc 41 then some (.getfield 21, 3, 4, 3, 95, .int 0) else none) else
       (bif Nat.beq pc 44 then some (.if_icmp .ge 16, 3, 60, 0, 0, mj_u) else none))))) else
   (bif Nat.blt pc 54 then (bif Nat.blt pc 50 then (bif Nat.blt pc 48 then (bif Nat.beq pc 47 then some (.aload_n 0, 1, 0, 0, 0, mj_u) else none) else
      (bif Nat.beq pc 48 then some (.iload 4, 2, 4, 0, 0, mj_u) else none)) else
     (bif Nat.blt pc 51 then (bif Nat.beq pc 50 then some (.iload_n 3, 1, 3, 0, 0, mj_u) else none) else
      (bif Nat.beq pc 51 then some (.invokevirtual 37, 3, 11, 0, 280, mj_u) else none))) else
    (bif Nat.blt pc 60 then (bif Nat.blt pc 57 then (bif Nat.beq pc 54 then some (.iinc 4 1, 3, 4, 0, 0, .int 1) else none) else
      (bif Nat.beq pc 57 then some (.goto (-19), 3, 38, 0, 0, mj_u) else none)) else
     (bif Nat.blt pc 63 then (bif Nat.beq pc 60 then some (.iinc 3 1, 3, 3, 0, 0, .int 1) else none) else
      (bif Nat.blt pc 66 then (bif Nat.beq pc 63 then some (.goto (-36), 3, 27, 0, 0, mj_u) else none) else
       (bif Nat.beq pc 66 then some (.return_, 1, 0, 0, 0, mj_u) else none))))))
def m_Land_layOut : mj_M := (9, prog_6_method_2_code, 5, (Option.none : Option Jvm.ClassFile.FieldType), 4, 2, 276, 274, 275, 46, 67, k_Land_layOut)
/-- java/util/Arrays.fill([II)V static -/
def k_Arr_fill : Nat → Option mj_I := fun pc =>
  bif Nat.blt pc 7 then (bif Nat.blt pc 3 then (bif Nat.blt pc 1 then (bif Nat.beq pc 0 then some (.iconst 0, 1, 0, 0, 0, .int 0) else none) else
    (bif Nat.blt pc 2 then (bif Nat.beq pc 1 then some (.istore_n 2, 1, 2, 0, 0, mj_u) else none) else
     (bif Nat.beq pc 2 then some (.aload_n 0, 1, 0, 0, 0, mj_u) else none))) else
   (bif Nat.blt pc 5 then (bif Nat.blt pc 4 then (bif Nat.beq pc 3 then some (.arraylength, 1, 0, 0, 0, mj_u) else none) else
     (bif Nat.beq pc 4 then some (.istore_n 3, 1, 3, 0, 0, mj_u) else none)) else
    (bif Nat.blt pc 6 then (bif Nat.beq pc 5 then some (.iload_n 2, 1, 2, 0, 0, mj_u) else none) else
     (bif Nat.beq pc 6 then some (.iload_n 3, 1, 3, 0, 0, mj_u) else none)))) else
  (bif Nat.blt pc 13 then (bif Nat.blt pc 11 then (bif Nat.blt pc 10 then (bif Nat.beq pc 7 then some (.if_icmp .ge 13, 3, 20, 0, 0, mj_u) else none) else
     (bif Nat.beq pc 10 then some (.aload_n 0, 1, 0, 0, 0, mj_u) else none)) else
    (bif Nat.blt pc 12 then (bif Nat.beq pc 11 then some (.iload_n 2, 1, 2, 0, 0, mj_u) else none) else
     (bif Nat.beq pc 12 then some (.iload_n 1, 1, 1, 0, 0, mj_u) else none))) else
   (bif Nat.blt pc 17 then (bif Nat.blt pc 14 then (bif Nat.beq pc 13 then some (.iastore, 1, 0, 0, 0, mj_u) else none) else
     (bif Nat.beq pc 14 then some (.iinc 2 1, 3, 2, 0, 0, .int 1) else none)) else
    (bif Nat.blt pc 20 then (bif Nat.beq pc 17 then some (.goto (-12), 3, 5, 0, 0, mj_u) else none) else
     (bif Nat.beq pc 20 then some (.return_, 1, 0, 0, 0, mj_u) else none))))
def m_Arr_fill : mj_M := (10, prog_33_method_103_code, 4, (Option.none : Option Jvm.ClassFile.FieldType), 13, 2, 279, 278, 0, 54, 21, k_Arr_fill)
/-- WatershedMap$Land.findNeighbours(II)V -/
def k_Land_findNeighbours : Nat → Option mj_I := fun pc =>
  bif Nat.blt pc 32 then (bif Nat.blt pc 15 then (bif Nat.blt pc 8 then (bif Nat.blt pc 2 then (bif Nat.blt pc 1 then (bif Nat.beq pc 0 then some (.iconst 0, 1, 0, 0, 0, .int 0) else none) else
      (bif Nat.beq pc 1 then some (.istore_n 3, 1, 3, 0, 0, mj_u) else none)) else
     (bif Nat.blt pc 3 then (bif Nat.beq pc 2 then some (.iload_n 3, 1, 3, 0, 0, mj_u) else none) else
      (bif Nat.blt pc 5 then (bif Nat.beq pc 3 then some (.bipush 8, 2, 0, 0, 0, .int 8) else none) else
       (bif Nat.beq pc 5 then some (.if_icmp .ge 66, 3, 71, 0, 0, mj_u) else none)))) else
    (bif Nat.blt pc 12 then (bif Nat.blt pc 9 then (bif Nat.beq pc 8 then some (.iload_n 1, 1, 1, 0, 0, mj_u) else none) else
      (bif Nat.beq pc 9 then some (.getstatic 41, 3, 0, 1, 284, mj_u) else none)) else
     (bif Nat.blt pc 13 then (bif Nat.beq pc 12 then some (.iload_n 3, 1, 3, 0, 0, mj_u) else none) else
      (bif Nat.blt pc 14 then (bif Nat.beq pc 13 then some (.iaload, 1, 0, 0, 0, mj_u) else none) else
       (bif Nat.beq pc 14 then some (.iadd, 1, 0, 0, 0, mj_u) else none))))) else
   (bif Nat.blt pc 23 then (bif Nat.blt pc 18 then (bif Nat.blt pc 17 then (bif Nat.beq pc 15 then some (.istore 4, 2, 4, 0, 0, mj_u) else none) else
      (bif Nat.beq pc 17 then some (.iload_n 2, 1, 2, 0, 0, mj_u) else none)) else
     (bif Nat.blt pc 21 then (bif Nat.beq pc 18 then some (.getstatic 44, 3, 1, 1, 286, mj_u) else none) else
      (bif Nat.blt pc 22 then (bif Nat.beq pc 21 then some (.iload_n 3, 1, 3, 0, 0, mj_u) else none) else
       (bif Nat.beq pc 22 then some (.iaload, 1, 0, 0, 0, mj_u) else none)))) else
    (bif Nat.blt pc 27 then (bif Nat.blt pc 24 then (bif Nat.beq pc 23 then some (.iadd, 1, 0, 0, 0, mj_u) else none) else
      (bif Nat.blt pc 26 then (bif Nat.beq pc 24 then some (.istore 5, 2, 5, 0, 0, mj_u) else none) else
       (bif Nat.beq pc 26 then some (.aload_n 0, 1, 0, 0, 0, mj_u) else none))) else
     (bif Nat.blt pc 30 then (bif Nat.beq pc 27 then some (.getfield 18, 3, 4, 2, 94, .null) else none) else
      (bif Nat.blt pc 31 then (bif Nat.beq pc 30 then some (.aload_n 0, 1, 0, 0, 0, mj_u) else none) else
       (bif Nat.beq pc 31 then some (.iload_n 1, 1, 1, 0, 0, mj_u) else none)))))) else
  (bif Nat.blt pc 49 then (bif Nat.blt pc 40 then (bif Nat.blt pc 36 then (bif Nat.blt pc 33 then (bif Nat.beq pc 32 then some (.iload_n 2, 1, 2, 0, 0, mj_u) else none) else
      (bif Nat.beq pc 33 then some (.invokevirtual 47, 3, 12, 0, 288, mj_u) else none)) else
     (bif Nat.blt pc 38 then (bif Nat.beq pc 36 then some (.bipush 8, 2, 0, 0, 0, .int 8) else none) else
      (bif Nat.blt pc 39 then (bif Nat.beq pc 38 then some (.imul, 1, 0, 0, 0, mj_u) else none) else
       (bif Nat.beq pc 39 then some (.iload_n 3, 1, 3, 0, 0, mj_u) else none)))) else
    (bif Nat.blt pc 42 then (bif Nat.blt pc 41 then (bif Nat.beq pc 40 then some (.iadd, 1, 0, 0, 0, mj_u) else none) else
      (bif Nat.beq pc 41 then some (.aload_n 0, 1, 0, 0, 0, mj_u) else none)) else
     (bif Nat.blt pc 44 then (bif Nat.beq pc 42 then some (.iload 4, 2, 4, 0, 0, mj_u) else none) else
      (bif Nat.blt pc 46 then (bif Nat.beq pc 44 then some (.iload 5, 2, 5, 0, 0, mj_u) else none) else
       (bif Nat.beq pc 46 then some (.invokevirtual 51, 3, 13, 0, 292, mj_u) else none))))) else
   (bif Nat.blt pc 60 then (bif Nat.blt pc 53 then (bif Nat.blt pc 52 then (bif Nat.beq pc 49 then some (.ifCond .eq 14, 3, 63, 0, 0, mj_u) else none) else
      (bif Nat.beq pc 52 then some (.aload_n 0, 1, 0, 0, 0, mj_u) else none)) else
     (bif Nat.blt pc 55 then (bif Nat.beq pc 53 then some (.iload 4, 2, 4, 0, 0, mj_u) else none) else
      (bif Nat.blt pc 57 then (bif Nat.beq pc 55 then some (.iload 5, 2, 5, 0, 0, mj_u) else none) else
       (bif Nat.beq pc 57 then some (.invokevirtual 47, 3, 12, 0, 288, mj_u) else none)))) else
    (bif Nat.blt pc 65 then (bif Nat.blt pc 63 then (bif Nat.beq pc 60 then some (.goto 4, 3, 64, 0, 0, mj_u) else none) else
      (bif Nat.blt pc 64 then (bif Nat.beq pc 63 then some (.iconst (-1), 1, 0, 0, 0, .int (-1)) else none) else
       (bif Nat.beq pc 64 then some (.iastore, 1, 0, 0, 0, mj_u) else none))) else
     (bif Nat.blt pc 68 then (bif Nat.beq pc 65 then some (.iinc 3 1, 3, 3, 0, 0, .int 1) else none) else
      (bif Nat.blt pc 71 then (bif Nat.beq pc 68 then some (.goto (-66), 3, 2, 0, 0, mj_u) else none) else
       (bif Nat.beq pc 71 then some (.return_, 1, 0, 0, 0, mj_u) else none))))))
def m_Land_findNeighbours : mj_M := (11, prog_6_method_3_code, 6, (Option.none : Option Jvm.ClassFile.FieldType), 4, 2, 283, 282, 0, 46, 72, k_Land_findNeighbours)
/-- WatershedMap$Land.numberOf(II)I -/
def k_Land_numberOf : Nat → Option mj_I := fun pc =>
  bif Nat.blt pc 5 then (bif Nat.blt pc 1 then (bif Nat.beq pc 0 then some (.iload_n 2, 1, 2, 0, 0, mj_u) else none) else
   (bif Nat.blt pc 2 then (bif Nat.beq pc 1 then some (.aload_n 0, 1, 0, 0, 0, mj_u) else none) else
    (bif Nat.beq pc 2 then some (.getfield 21, 3, 4, 3, 95, .int 0) else none))) else
  (bif Nat.blt pc 7 then (bif Nat.blt pc 6 then (bif Nat.beq pc 5 then some (.imul, 1, 0, 0, 0, mj_u) else none) else
    (bif Nat.beq pc 6 then some (.iload_n 1, 1, 1, 0, 0, mj_u) else none)) else
   (bif Nat.blt pc 8 then (bif Nat.beq pc 7 then some (.iadd, 1, 0, 0, 0, mj_u) else none) else
    (bif Nat.beq pc 8 then some (.ireturn, 1, 0, 0, 0, mj_u) else none)))
def m_Land_numberOf : mj_M := (12, prog_6_method_5_code, 3, (Option.some Jvm.ClassFile.FieldType.int), 4, 2, 291, 289, 290, 46, 9, k_Land_numberOf)
/-- WatershedMap$Land.has(II)Z -/
def k_Land_has : Nat → Option mj_I := fun pc =>
  bif Nat.blt pc 16 then (bif Nat.blt pc 6 then (bif Nat.blt pc 4 then (bif Nat.blt pc 1 then (bif Nat.beq pc 0 then some (.iload_n 1, 1, 1, 0, 0, mj_u) else none) else
     (bif Nat.beq pc 1 then some (.ifCond .lt 27, 3, 28, 0, 0, mj_u) else none)) else
    (bif Nat.blt pc 5 then (bif Nat.beq pc 4 then some (.iload_n 1, 1, 1, 0, 0, mj_u) else none) else
     (bif Nat.beq pc 5 then some (.aload_n 0, 1, 0, 0, 0, mj_u) else none))) else
   (bif Nat.blt pc 12 then (bif Nat.blt pc 9 then (bif Nat.beq pc 6 then some (.getfield 21, 3, 4, 3, 95, .int 0) else none) else
     (bif Nat.beq pc 9 then some (.if_icmp .ge 19, 3, 28, 0, 0, mj_u) else none)) else
    (bif Nat.blt pc 13 then (bif Nat.beq pc 12 then some (.iload_n 2, 1, 2, 0, 0, mj_u) else none) else
     (bif Nat.beq pc 13 then some (.ifCond .lt 15, 3, 28, 0, 0, mj_u) else none)))) else
  (bif Nat.blt pc 24 then (bif Nat.blt pc 18 then (bif Nat.blt pc 17 then (bif Nat.beq pc 16 then some (.iload_n 2, 1, 2, 0, 0, mj_u) else none) else
     (bif Nat.beq pc 17 then some (.aload_n 0, 1, 0, 0, 0, mj_u) else none)) else
    (bif Nat.blt pc 21 then (bif Nat.beq pc 18 then some (.getfield 25, 3, 4, 4, 99, .int 0) else none) else
     (bif Nat.beq pc 21 then some (.if_icmp .ge 7, 3, 28, 0, 0, mj_u) else none))) else
   (bif Nat.blt pc 28 then (bif Nat.blt pc 25 then (bif Nat.beq pc 24 then some (.iconst 1, 1, 0, 0, 0, .int 1) else none) else
     (bif Nat.beq pc 25 then some (.goto 4, 3, 29, 0, 0, mj_u) else none)) else
    (bif Nat.blt pc 29 then (bif Nat.beq pc 28 then some (.iconst 0, 1, 0, 0, 0, .int 0) else none) else
     (bif Nat.beq pc 29 then some (.ireturn, 1, 0, 0, 0, mj_u) else none))))
def m_Land_has : mj_M := (13, prog_6_method_4_code, 3, (Option.some Jvm.ClassFile.FieldType.boolean), 4, 2, 295, 293, 294, 46, 30, k_Land_has)
/-- WatershedMap.smooth()I -/
def k_W_smooth : Nat → Option mj_I := fun pc =>
  bif Nat.blt pc 4 then (bif Nat.blt pc 1 then (bif Nat.beq pc 0 then some (.aload_n 0, 1, 0, 0, 0, mj_u) else none) else
   (bif Nat.beq pc 1 then some (.getfield 10, 3, 8, 0, 296, .null) else none)) else
  (bif Nat.blt pc 7 then (bif Nat.beq pc 4 then some (.invokevirtual 97, 3, 15, 0, 325, mj_u) else none) else
   (bif Nat.beq pc 7 then some (.ireturn, 1, 0, 0, 0, mj_u) else none))
def m_W_smooth : mj_M := (14, prog_1_method_7_code, 1, (Option.some Jvm.ClassFile.FieldType.int), 8, 0, 324, 322, 323, 45, 8, k_W_smooth)
/-- WatershedMap$Land.soften()I -/
def k_Land_soften : Nat → Option mj_I := fun pc =>
  bif Nat.blt pc 61 then (bif Nat.blt pc 27 then (bif Nat.blt pc 15 then (bif Nat.blt pc 4 then (bif Nat.blt pc 2 then (bif Nat.blt pc 1 then (bif Nat.beq pc 0 then some (.iconst 0, 1, 0, 0, 0, .int 0) else none) else
       (bif Nat.beq pc 1 then some (.istore_n 1, 1, 1, 0, 0, mj_u) else none)) else
      (bif Nat.blt pc 3 then (bif Nat.beq pc 2 then some (.iload_n 1, 1, 1, 0, 0, mj_u) else none) else
       (bif Nat.beq pc 3 then some (.aload_n 0, 1, 0, 0, 0, mj_u) else none))) else
     (bif Nat.blt pc 10 then (bif Nat.blt pc 7 then (bif Nat.beq pc 4 then some (.getfield 28, 3, 4, 5, 103, .int 0) else none) else
       (bif Nat.beq pc 7 then some (.if_icmp .ge 69, 3, 76, 0, 0, mj_u) else none)) else
      (bif Nat.blt pc 11 then (bif Nat.beq pc 10 then some (.iconst 4, 1, 0, 0, 0, .int 4) else none) else
       (bif Nat.blt pc 12 then (bif Nat.beq pc 11 then some (.aload_n 0, 1, 0, 0, 0, mj_u) else none) else
        (bif Nat.beq pc 12 then some (.getfield 9, 3, 4, 0, 87, .null) else none))))) else
    (bif Nat.blt pc 19 then (bif Nat.blt pc 17 then (bif Nat.blt pc 16 then (bif Nat.beq pc 15 then some (.iload_n 1, 1, 1, 0, 0, mj_u) else none) else
       (bif Nat.beq pc 16 then some (.iaload, 1, 0, 0, 0, mj_u) else none)) else
      (bif Nat.blt pc 18 then (bif Nat.beq pc 17 then some (.imul, 1, 0, 0, 0, mj_u) else none) else
       (bif Nat.beq pc 18 then some (.istore_n 2, 1, 2, 0, 0, mj_u) else none))) else
     (bif Nat.blt pc 21 then (bif Nat.blt pc 20 then (bif Nat.beq pc 19 then some (.iconst 0, 1, 0, 0, 0, .int 0) else none) else
       (bif Nat.beq pc 20 then some (.istore_n 3, 1, 3, 0, 0, mj_u) else none)) else
      (bif Nat.blt pc 22 then (bif Nat.beq pc 21 then some (.iload_n 3, 1, 3, 0, 0, mj_u) else none) else
       (bif Nat.blt pc 24 then (bif Nat.beq pc 22 then some (.bipush 8, 2, 0, 0, 0, .int 8) else none) else
        (bif Nat.beq pc 24 then some (.if_icmp .ge 36, 3, 60, 0, 0, mj_u) else none)))))) else
   (bif Nat.blt pc 42 then (bif Nat.blt pc 33 then (bif Nat.blt pc 29 then (bif Nat.blt pc 28 then (bif Nat.beq pc 27 then some (.aload_n 0, 1, 0, 0, 0, mj_u) else none) else
       (bif Nat.beq pc 28 then some (.iload_n 1, 1, 1, 0, 0, mj_u) else none)) else
      (bif Nat.blt pc 30 then (bif Nat.beq pc 29 then some (.iload_n 3, 1, 3, 0, 0, mj_u) else none) else
       (bif Nat.beq pc 30 then some (.invokevirtual 55, 3, 16, 0, 329, mj_u) else none))) else
     (bif Nat.blt pc 36 then (bif Nat.blt pc 35 then (bif Nat.beq pc 33 then some (.istore 4, 2, 4, 0, 0, mj_u) else none) else
       (bif Nat.beq pc 35 then some (.iload_n 2, 1, 2, 0, 0, mj_u) else none)) else
      (bif Nat.blt pc 37 then (bif Nat.beq pc 36 then some (.aload_n 0, 1, 0, 0, 0, mj_u) else none) else
       (bif Nat.blt pc 40 then (bif Nat.beq pc 37 then some (.getfield 9, 3, 4, 0, 87, .null) else none) else
        (bif Nat.beq pc 40 then some (.iload 4, 2, 4, 0, 0, mj_u) else none))))) else
    (bif Nat.blt pc 52 then (bif Nat.blt pc 46 then (bif Nat.blt pc 45 then (bif Nat.beq pc 42 then some (.ifCond .ge 7, 3, 49, 0, 0, mj_u) else none) else
       (bif Nat.beq pc 45 then some (.iload_n 1, 1, 1, 0, 0, mj_u) else none)) else
      (bif Nat.blt pc 49 then (bif Nat.beq pc 46 then some (.goto 5, 3, 51, 0, 0, mj_u) else none) else
       (bif Nat.blt pc 51 then (bif Nat.beq pc 49 then some (.iload 4, 2, 4, 0, 0, mj_u) else none) else
        (bif Nat.beq pc 51 then some (.iaload, 1, 0, 0, 0, mj_u) else none)))) else
     (bif Nat.blt pc 54 then (bif Nat.blt pc 53 then (bif Nat.beq pc 52 then some (.iadd, 1, 0, 0, 0, mj_u) else none) else
       (bif Nat.beq pc 53 then some (.istore_n 2, 1, 2, 0, 0, mj_u) else none)) else
      (bif Nat.blt pc 57 then (bif Nat.beq pc 54 then some (.iinc 3 2, 3, 3, 0, 0, .int 2) else none) else
       (bif Nat.blt pc 60 then (bif Nat.beq pc 57 then some (.goto (-36), 3, 21, 0, 0, mj_u) else none) else
        (bif Nat.beq pc 60 then some (.aload_n 0, 1, 0, 0, 0, mj_u) else none))))))) else
  (bif Nat.blt pc 91 then (bif Nat.blt pc 77 then (bif Nat.blt pc 68 then (bif Nat.blt pc 65 then (bif Nat.blt pc 64 then (bif Nat.beq pc 61 then some (.getfield 15, 3, 4, 1, 93, .null) else none) else
       (bif Nat.beq pc 64 then some (.iload_n 1, 1, 1, 0, 0, mj_u) else none)) else
      (bif Nat.blt pc 66 then (bif Nat.beq pc 65 then some (.iload_n 2, 1, 2, 0, 0, mj_u) else none) else
       (bif Nat.beq pc 66 then some (.bipush 8, 2, 0, 0, 0, .int 8) else none))) else
     (bif Nat.blt pc 70 then (bif Nat.blt pc 69 then (bif Nat.beq pc 68 then some (.idiv, 1, 0, 0, 0, mj_u) else none) else
       (bif Nat.beq pc 69 then some (.iastore, 1, 0, 0, 0, mj_u) else none)) else
      (bif Nat.blt pc 73 then (bif Nat.beq pc 70 then some (.iinc 1 1, 3, 1, 0, 0, .int 1) else none) else
       (bif Nat.blt pc 76 then (bif Nat.beq pc 73 then some (.goto (-71), 3, 2, 0, 0, mj_u) else none) else
        (bif Nat.beq pc 76 then some (.iconst 0, 1, 0, 0, 0, .int 0) else none))))) else
    (bif Nat.blt pc 82 then (bif Nat.blt pc 79 then (bif Nat.blt pc 78 then (bif Nat.beq pc 77 then some (.istore_n 1, 1, 1, 0, 0, mj_u) else none) else
       (bif Nat.beq pc 78 then some (.iconst 0, 1, 0, 0, 0, .int 0) else none)) else
      (bif Nat.blt pc 80 then (bif Nat.beq pc 79 then some (.istore_n 2, 1, 2, 0, 0, mj_u) else none) else
       (bif Nat.blt pc 81 then (bif Nat.beq pc 80 then some (.iload_n 2, 1, 2, 0, 0, mj_u) else none) else
        (bif Nat.beq pc 81 then some (.aload_n 0, 1, 0, 0, 0, mj_u) else none)))) else
     (bif Nat.blt pc 88 then (bif Nat.blt pc 85 then (bif Nat.beq pc 82 then some (.getfield 28, 3, 4, 5, 103, .int 0) else none) else
       (bif Nat.beq pc 85 then some (.if_icmp .ge 37, 3, 122, 0, 0, mj_u) else none)) else
      (bif Nat.blt pc 89 then (bif Nat.beq pc 88 then some (.iload_n 1, 1, 1, 0, 0, mj_u) else none) else
       (bif Nat.blt pc 90 then (bif Nat.beq pc 89 then some (.aload_n 0, 1, 0, 0, 0, mj_u) else none) else
        (bif Nat.beq pc 90 then some (.iload_n 2, 1, 2, 0, 0, mj_u) else none)))))) else
   (bif Nat.blt pc 106 then (bif Nat.blt pc 97 then (bif Nat.blt pc 95 then (bif Nat.blt pc 92 then (bif Nat.beq pc 91 then some (.aload_n 0, 1, 0, 0, 0, mj_u) else none) else
       (bif Nat.beq pc 92 then some (.getfield 15, 3, 4, 1, 93, .null) else none)) else
      (bif Nat.blt pc 96 then (bif Nat.beq pc 95 then some (.iload_n 2, 1, 2, 0, 0, mj_u) else none) else
       (bif Nat.beq pc 96 then some (.iaload, 1, 0, 0, 0, mj_u) else none))) else
     (bif Nat.blt pc 101 then (bif Nat.blt pc 100 then (bif Nat.beq pc 97 then some (.invokevirtual 80, 3, 17, 0, 333, mj_u) else none) else
       (bif Nat.beq pc 100 then some (.aload_n 0, 1, 0, 0, 0, mj_u) else none)) else
      (bif Nat.blt pc 104 then (bif Nat.beq pc 101 then some (.getfield 15, 3, 4, 1, 93, .null) else none) else
       (bif Nat.blt pc 105 then (bif Nat.beq pc 104 then some (.iload_n 2, 1, 2, 0, 0, mj_u) else none) else
        (bif Nat.beq pc 105 then some (.iaload, 1, 0, 0, 0, mj_u) else none))))) else
    (bif Nat.blt pc 115 then (bif Nat.blt pc 110 then (bif Nat.blt pc 109 then (bif Nat.beq pc 106 then some (.if_icmp .eq 7, 3, 113, 0, 0, mj_u) else none) else
       (bif Nat.beq pc 109 then some (.iconst 1, 1, 0, 0, 0, .int 1) else none)) else
      (bif Nat.blt pc 113 then (bif Nat.beq pc 110 then some (.goto 4, 3, 114, 0, 0, mj_u) else none) else
       (bif Nat.blt pc 114 then (bif Nat.beq pc 113 then some (.iconst 0, 1, 0, 0, 0, .int 0) else none) else
        (bif Nat.beq pc 114 then some (.iadd, 1, 0, 0, 0, mj_u) else none)))) else
     (bif Nat.blt pc 119 then (bif Nat.blt pc 116 then (bif Nat.beq pc 115 then some (.istore_n 1, 1, 1, 0, 0, mj_u) else none) else
       (bif Nat.beq pc 116 then some (.iinc 2 1, 3, 2, 0, 0, .int 1) else none)) else
      (bif Nat.blt pc 122 then (bif Nat.beq pc 119 then some (.goto (-39), 3, 80, 0, 0, mj_u) else none) else
       (bif Nat.blt pc 123 then (bif Nat.beq pc 122 then some (.iload_n 1, 1, 1, 0, 0, mj_u) else none) else
        (bif Nat.beq pc 123 then some (.ireturn, 1, 0, 0, 0, mj_u) else none)))))))
def m_Land_soften : mj_M := (15, prog_6_method_20_code, 5, (Option.some Jvm.ClassFile.FieldType.int), 4, 0, 328, 326, 327, 46, 124, k_Land_soften)
/-- WatershedMap$Land.neighbour(II)I -/
def k_Land_neighbour : Nat → Option mj_I := fun pc =>
  bif Nat.blt pc 7 then (bif Nat.blt pc 4 then (bif Nat.blt pc 1 then (bif Nat.beq pc 0 then some (.aload_n 0, 1, 0, 0, 0, mj_u) else none) else
    (bif Nat.beq pc 1 then some (.getfield 18, 3, 4, 2, 94, .null) else none)) else
   (bif Nat.blt pc 5 then (bif Nat.beq pc 4 then some (.iload_n 1, 1, 1, 0, 0, mj_u) else none) else
    (bif Nat.beq pc 5 then some (.bipush 8, 2, 0, 0, 0, .int 8) else none))) else
  (bif Nat.blt pc 9 then (bif Nat.blt pc 8 then (bif Nat.beq pc 7 then some (.imul, 1, 0, 0, 0, mj_u) else none) else
    (bif Nat.beq pc 8 then some (.iload_n 2, 1, 2, 0, 0, mj_u) else none)) else
   (bif Nat.blt pc 10 then (bif Nat.beq pc 9 then some (.iadd, 1, 0, 0, 0, mj_u) else none) else
    (bif Nat.blt pc 11 then (bif Nat.beq pc 10 then some (.iaload, 1, 0, 0, 0, mj_u) else none) else
     (bif Nat.beq pc 11 then some (.ireturn, 1, 0, 0, 0, mj_u) else none))))
def m_Land_neighbour : mj_M := (16, prog_6_method_6_code, 3, (Option.some Jvm.ClassFile.FieldType.int), 4, 2, 332, 330, 331, 46, 12, k_Land_neighbour)
/-- WatershedMap$Land.exchange(II)I -/
def k_Land_exchange : Nat → Option mj_I := fun pc =>
  bif Nat.blt pc 16 then (bif Nat.blt pc 7 then (bif Nat.blt pc 4 then (bif Nat.blt pc 1 then (bif Nat.beq pc 0 then some (.aload_n 0, 1, 0, 0, 0, mj_u) else none) else
     (bif Nat.beq pc 1 then some (.getfield 9, 3, 4, 0, 87, .null) else none)) else
    (bif Nat.blt pc 5 then (bif Nat.beq pc 4 then some (.iload_n 1, 1, 1, 0, 0, mj_u) else none) else
     (bif Nat.blt pc 6 then (bif Nat.beq pc 5 then some (.iaload, 1, 0, 0, 0, mj_u) else none) else
      (bif Nat.beq pc 6 then some (.istore_n 3, 1, 3, 0, 0, mj_u) else none)))) else
   (bif Nat.blt pc 11 then (bif Nat.blt pc 8 then (bif Nat.beq pc 7 then some (.aload_n 0, 1, 0, 0, 0, mj_u) else none) else
     (bif Nat.beq pc 8 then some (.getfield 9, 3, 4, 0, 87, .null) else none)) else
    (bif Nat.blt pc 12 then (bif Nat.beq pc 11 then some (.iload_n 1, 1, 1, 0, 0, mj_u) else none) else
     (bif Nat.blt pc 13 then (bif Nat.beq pc 12 then some (.iload_n 2, 1, 2, 0, 0, mj_u) else none) else
      (bif Nat.beq pc 13 then some (.ifCond .ge 7, 3, 20, 0, 0, mj_u) else none))))) else
  (bif Nat.blt pc 27 then (bif Nat.blt pc 20 then (bif Nat.blt pc 17 then (bif Nat.beq pc 16 then some (.iconst 0, 1, 0, 0, 0, .int 0) else none) else
     (bif Nat.beq pc 17 then some (.goto 17, 3, 34, 0, 0, mj_u) else none)) else
    (bif Nat.blt pc 21 then (bif Nat.beq pc 20 then some (.iload_n 2, 1, 2, 0, 0, mj_u) else none) else
     (bif Nat.blt pc 24 then (bif Nat.beq pc 21 then some (.sipush 999, 3, 0, 0, 0, .int 999) else none) else
      (bif Nat.beq pc 24 then some (.if_icmp .le 9, 3, 33, 0, 0, mj_u) else none)))) else
   (bif Nat.blt pc 34 then (bif Nat.blt pc 30 then (bif Nat.beq pc 27 then some (.sipush 999, 3, 0, 0, 0, .int 999) else none) else
     (bif Nat.blt pc 33 then (bif Nat.beq pc 30 then some (.goto 4, 3, 34, 0, 0, mj_u) else none) else
      (bif Nat.beq pc 33 then some (.iload_n 2, 1, 2, 0, 0, mj_u) else none))) else
    (bif Nat.blt pc 35 then (bif Nat.beq pc 34 then some (.iastore, 1, 0, 0, 0, mj_u) else none) else
     (bif Nat.blt pc 36 then (bif Nat.beq pc 35 then some (.iload_n 3, 1, 3, 0, 0, mj_u) else none) else
      (bif Nat.beq pc 36 then some (.ireturn, 1, 0, 0, 0, mj_u) else none)))))
def m_Land_exchange : mj_M := (17, prog_6_method_9_code, 4, (Option.some Jvm.ClassFile.FieldType.int), 4, 2, 336, 334, 335, 46, 37, k_Land_exchange)
/-- WatershedMap.fill()I -/
def k_W_fill : Nat → Option mj_I := fun pc =>
  bif Nat.blt pc 11 then (bif Nat.blt pc 4 then (bif Nat.blt pc 1 then (bif Nat.beq pc 0 then some (.aload_n 0, 1, 0, 0, 0, mj_u) else none) else
    (bif Nat.beq pc 1 then some (.getfield 28, 3, 8, 2, 298, .null) else none)) else
   (bif Nat.blt pc 7 then (bif Nat.beq pc 4 then some (.invokevirtual 108, 3, 19, 0, 341, mj_u) else none) else
    (bif Nat.blt pc 8 then (bif Nat.beq pc 7 then some (.aload_n 0, 1, 0, 0, 0, mj_u) else none) else
     (bif Nat.beq pc 8 then some (.getfield 10, 3, 8, 0, 296, .null) else none)))) else
  (bif Nat.blt pc 15 then (bif Nat.blt pc 12 then (bif Nat.beq pc 11 then some (.aload_n 0, 1, 0, 0, 0, mj_u) else none) else
    (bif Nat.beq pc 12 then some (.getfield 28, 3, 8, 2, 298, .null) else none)) else
   (bif Nat.blt pc 18 then (bif Nat.beq pc 15 then some (.getfield 111, 3, 3, 1, 201, .null) else none) else
    (bif Nat.blt pc 21 then (bif Nat.beq pc 18 then some (.invokevirtual 114, 3, 33, 0, 397, mj_u) else none) else
     (bif Nat.beq pc 21 then some (.ireturn, 1, 0, 0, 0, mj_u) else none))))
def m_W_fill : mj_M := (18, prog_1_method_9_code, 1, (Option.some Jvm.ClassFile.FieldType.int), 8, 0, 340, 338, 339, 45, 22, k_W_fill)
/-- WatershedMap$Hollows.find()V -/
def k_Hollows_find : Nat → Option mj_I := fun pc =>
  bif Nat.blt pc 42 then (bif Nat.blt pc 19 then (bif Nat.blt pc 11 then (bif Nat.blt pc 4 then (bif Nat.blt pc 1 then (bif Nat.beq pc 0 then some (.aload_n 0, 1, 0, 0, 0, mj_u) else none) else
      (bif Nat.beq pc 1 then some (.invokevirtual 33, 3, 20, 0, 345, mj_u) else none)) else
     (bif Nat.blt pc 5 then (bif Nat.beq pc 4 then some (.aload_n 0, 1, 0, 0, 0, mj_u) else none) else
      (bif Nat.blt pc 8 then (bif Nat.beq pc 5 then some (.getfield 25, 3, 3, 3, 203, .null) else none) else
       (bif Nat.beq pc 8 then some (.invokevirtual 36, 3, 27, 0, 373, mj_u) else none)))) else
    (bif Nat.blt pc 16 then (bif Nat.blt pc 12 then (bif Nat.beq pc 11 then some (.aload_n 0, 1, 0, 0, 0, mj_u) else none) else
      (bif Nat.blt pc 13 then (bif Nat.beq pc 12 then some (.iconst 0, 1, 0, 0, 0, .int 0) else none) else
       (bif Nat.beq pc 13 then some (.putfield 39, 3, 3, 4, 204, .int 0) else none))) else
     (bif Nat.blt pc 17 then (bif Nat.beq pc 16 then some (.iconst 0, 1, 0, 0, 0, .int 0) else none) else
      (bif Nat.blt pc 18 then (bif Nat.beq pc 17 then some (.istore_n 1, 1, 1, 0, 0, mj_u) else none) else
       (bif Nat.beq pc 18 then some (.iload_n 1, 1, 1, 0, 0, mj_u) else none))))) else
   (bif Nat.blt pc 30 then (bif Nat.blt pc 23 then (bif Nat.blt pc 20 then (bif Nat.beq pc 19 then some (.aload_n 0, 1, 0, 0, 0, mj_u) else none) else
      (bif Nat.beq pc 20 then some (.getfield 29, 3, 3, 0, 199, .null) else none)) else
     (bif Nat.blt pc 26 then (bif Nat.beq pc 23 then some (.getfield 43, 3, 4, 5, 104, .int 0) else none) else
      (bif Nat.blt pc 29 then (bif Nat.beq pc 26 then some (.if_icmp .ge 55, 3, 81, 0, 0, mj_u) else none) else
       (bif Nat.beq pc 29 then some (.aload_n 0, 1, 0, 0, 0, mj_u) else none)))) else
    (bif Nat.blt pc 37 then (bif Nat.blt pc 31 then (bif Nat.beq pc 30 then some (.iload_n 1, 1, 1, 0, 0, mj_u) else none) else
      (bif Nat.blt pc 34 then (bif Nat.beq pc 31 then some (.invokevirtual 48, 3, 28, 0, 377, mj_u) else none) else
       (bif Nat.beq pc 34 then some (.ifCond .eq 41, 3, 75, 0, 0, mj_u) else none))) else
     (bif Nat.blt pc 38 then (bif Nat.beq pc 37 then some (.aload_n 0, 1, 0, 0, 0, mj_u) else none) else
      (bif Nat.blt pc 39 then (bif Nat.beq pc 38 then some (.dup, 1, 0, 0, 0, mj_u) else none) else
       (bif Nat.beq pc 39 then some (.getfield 39, 3, 3, 4, 204, .int 0) else none)))))) else
  (bif Nat.blt pc 61 then (bif Nat.blt pc 49 then (bif Nat.blt pc 44 then (bif Nat.blt pc 43 then (bif Nat.beq pc 42 then some (.iconst 1, 1, 0, 0, 0, .int 1) else none) else
      (bif Nat.beq pc 43 then some (.iadd, 1, 0, 0, 0, mj_u) else none)) else
     (bif Nat.blt pc 47 then (bif Nat.beq pc 44 then some (.putfield 39, 3, 3, 4, 204, .int 0) else none) else
      (bif Nat.blt pc 48 then (bif Nat.beq pc 47 then some (.aload_n 0, 1, 0, 0, 0, mj_u) else none) else
       (bif Nat.beq pc 48 then some (.iload_n 1, 1, 1, 0, 0, mj_u) else none)))) else
    (bif Nat.blt pc 54 then (bif Nat.blt pc 50 then (bif Nat.beq pc 49 then some (.aload_n 0, 1, 0, 0, 0, mj_u) else none) else
      (bif Nat.blt pc 53 then (bif Nat.beq pc 50 then some (.getfield 29, 3, 3, 0, 199, .null) else none) else
       (bif Nat.beq pc 53 then some (.iload_n 1, 1, 1, 0, 0, mj_u) else none))) else
     (bif Nat.blt pc 55 then (bif Nat.beq pc 54 then some (.iconst 0, 1, 0, 0, 0, .int 0) else none) else
      (bif Nat.blt pc 58 then (bif Nat.beq pc 55 then some (.invokevirtual 52, 3, 16, 0, 369, mj_u) else none) else
       (bif Nat.beq pc 58 then some (.invokevirtual 56, 3, 30, 0, 385, mj_u) else none))))) else
   (bif Nat.blt pc 68 then (bif Nat.blt pc 63 then (bif Nat.blt pc 62 then (bif Nat.beq pc 61 then some (.aload_n 0, 1, 0, 0, 0, mj_u) else none) else
      (bif Nat.beq pc 62 then some (.iload_n 1, 1, 1, 0, 0, mj_u) else none)) else
     (bif Nat.blt pc 64 then (bif Nat.beq pc 63 then some (.aload_n 0, 1, 0, 0, 0, mj_u) else none) else
      (bif Nat.blt pc 67 then (bif Nat.beq pc 64 then some (.getfield 29, 3, 3, 0, 199, .null) else none) else
       (bif Nat.beq pc 67 then some (.iload_n 1, 1, 1, 0, 0, mj_u) else none)))) else
    (bif Nat.blt pc 75 then (bif Nat.blt pc 69 then (bif Nat.beq pc 68 then some (.iconst 2, 1, 0, 0, 0, .int 2) else none) else
      (bif Nat.blt pc 72 then (bif Nat.beq pc 69 then some (.invokevirtual 52, 3, 16, 0, 369, mj_u) else none) else
       (bif Nat.beq pc 72 then some (.invokevirtual 56, 3, 30, 0, 385, mj_u) else none))) else
     (bif Nat.blt pc 78 then (bif Nat.beq pc 75 then some (.iinc 1 1, 3, 1, 0, 0, .int 1) else none) else
      (bif Nat.blt pc 81 then (bif Nat.beq pc 78 then some (.goto (-60), 3, 18, 0, 0, mj_u) else none) else
       (bif Nat.beq pc 81 then some (.return_, 1, 0, 0, 0, mj_u) else none))))))
def m_Hollows_find : mj_M := (19, prog_5_method_2_code, 2, (Option.none : Option Jvm.ClassFile.FieldType), 3, 0, 344, 342, 343, 48, 82, k_Hollows_find)
/-- WatershedMap$Hollows.findLevels()V -/
def k_Hollows_findLevels : Nat → Option mj_I := fun pc =>
  bif Nat.blt pc 52 then (bif Nat.blt pc 26 then (bif Nat.blt pc 11 then (bif Nat.blt pc 7 then (bif Nat.blt pc 1 then (bif Nat.beq pc 0 then some (.aload_n 0, 1, 0, 0, 0, mj_u) else none) else
      (bif Nat.blt pc 4 then (bif Nat.beq pc 1 then some (.getfield 18, 3, 3, 2, 202, .null) else none) else
       (bif Nat.beq pc 4 then some (.invokevirtual 60, 3, 21, 0, 349, mj_u) else none))) else
     (bif Nat.blt pc 9 then (bif Nat.blt pc 8 then (bif Nat.beq pc 7 then some (.iconst 0, 1, 0, 0, 0, .int 0) else none) else
       (bif Nat.beq pc 8 then some (.istore_n 1, 1, 1, 0, 0, mj_u) else none)) else
      (bif Nat.blt pc 10 then (bif Nat.beq pc 9 then some (.iload_n 1, 1, 1, 0, 0, mj_u) else none) else
       (bif Nat.beq pc 10 then some (.aload_n 0, 1, 0, 0, 0, mj_u) else none)))) else
    (bif Nat.blt pc 20 then (bif Nat.blt pc 14 then (bif Nat.beq pc 11 then some (.getfield 29, 3, 3, 0, 199, .null) else none) else
      (bif Nat.blt pc 17 then (bif Nat.beq pc 14 then some (.getfield 43, 3, 4, 5, 104, .int 0) else none) else
       (bif Nat.beq pc 17 then some (.if_icmp .ge 50, 3, 67, 0, 0, mj_u) else none))) else
     (bif Nat.blt pc 24 then (bif Nat.blt pc 21 then (bif Nat.beq pc 20 then some (.aload_n 0, 1, 0, 0, 0, mj_u) else none) else
       (bif Nat.beq pc 21 then some (.getfield 9, 3, 3, 1, 200, .null) else none)) else
      (bif Nat.blt pc 25 then (bif Nat.beq pc 24 then some (.iload_n 1, 1, 1, 0, 0, mj_u) else none) else
       (bif Nat.beq pc 25 then some (.iconst (-1), 1, 0, 0, 0, .int (-1)) else none))))) else
   (bif Nat.blt pc 39 then (bif Nat.blt pc 31 then (bif Nat.blt pc 27 then (bif Nat.beq pc 26 then some (.iastore, 1, 0, 0, 0, mj_u) else none) else
      (bif Nat.blt pc 28 then (bif Nat.beq pc 27 then some (.aload_n 0, 1, 0, 0, 0, mj_u) else none) else
       (bif Nat.beq pc 28 then some (.getfield 29, 3, 3, 0, 199, .null) else none))) else
     (bif Nat.blt pc 35 then (bif Nat.blt pc 32 then (bif Nat.beq pc 31 then some (.iload_n 1, 1, 1, 0, 0, mj_u) else none) else
       (bif Nat.beq pc 32 then some (.invokevirtual 63, 3, 22, 0, 353, mj_u) else none)) else
      (bif Nat.blt pc 38 then (bif Nat.beq pc 35 then some (.ifCond .eq 26, 3, 61, 0, 0, mj_u) else none) else
       (bif Nat.beq pc 38 then some (.aload_n 0, 1, 0, 0, 0, mj_u) else none)))) else
    (bif Nat.blt pc 44 then (bif Nat.blt pc 42 then (bif Nat.beq pc 39 then some (.getfield 9, 3, 3, 1, 200, .null) else none) else
      (bif Nat.blt pc 43 then (bif Nat.beq pc 42 then some (.iload_n 1, 1, 1, 0, 0, mj_u) else none) else
       (bif Nat.beq pc 43 then some (.aload_n 0, 1, 0, 0, 0, mj_u) else none))) else
     (bif Nat.blt pc 50 then (bif Nat.blt pc 47 then (bif Nat.beq pc 44 then some (.getfield 29, 3, 3, 0, 199, .null) else none) else
       (bif Nat.beq pc 47 then some (.getfield 66, 3, 4, 0, 90, .null) else none)) else
      (bif Nat.blt pc 51 then (bif Nat.beq pc 50 then some (.iload_n 1, 1, 1, 0, 0, mj_u) else none) else
       (bif Nat.beq pc 51 then some (.iaload, 1, 0, 0, 0, mj_u) else none)))))) else
  (bif Nat.blt pc 80 then (bif Nat.blt pc 67 then (bif Nat.blt pc 57 then (bif Nat.blt pc 53 then (bif Nat.beq pc 52 then some (.iastore, 1, 0, 0, 0, mj_u) else none) else
      (bif Nat.blt pc 54 then (bif Nat.beq pc 53 then some (.aload_n 0, 1, 0, 0, 0, mj_u) else none) else
       (bif Nat.beq pc 54 then some (.getfield 18, 3, 3, 2, 202, .null) else none))) else
     (bif Nat.blt pc 61 then (bif Nat.blt pc 58 then (bif Nat.beq pc 57 then some (.iload_n 1, 1, 1, 0, 0, mj_u) else none) else
       (bif Nat.beq pc 58 then some (.invokevirtual 69, 3, 23, 0, 357, mj_u) else none)) else
      (bif Nat.blt pc 64 then (bif Nat.beq pc 61 then some (.iinc 1 1, 3, 1, 0, 0, .int 1) else none) else
       (bif Nat.beq pc 64 then some (.goto (-55), 3, 9, 0, 0, mj_u) else none)))) else
    (bif Nat.blt pc 70 then (bif Nat.blt pc 68 then (bif Nat.beq pc 67 then some (.iconst 0, 1, 0, 0, 0, .int 0) else none) else
      (bif Nat.blt pc 69 then (bif Nat.beq pc 68 then some (.istore_n 1, 1, 1, 0, 0, mj_u) else none) else
       (bif Nat.beq pc 69 then some (.iload_n 1, 1, 1, 0, 0, mj_u) else none))) else
     (bif Nat.blt pc 74 then (bif Nat.blt pc 71 then (bif Nat.beq pc 70 then some (.aload_n 0, 1, 0, 0, 0, mj_u) else none) else
       (bif Nat.beq pc 71 then some (.getfield 29, 3, 3, 0, 199, .null) else none)) else
      (bif Nat.blt pc 77 then (bif Nat.beq pc 74 then some (.getfield 43, 3, 4, 5, 104, .int 0) else none) else
       (bif Nat.beq pc 77 then some (.if_icmp .ge 30, 3, 107, 0, 0, mj_u) else none))))) else
   (bif Nat.blt pc 93 then (bif Nat.blt pc 85 then (bif Nat.blt pc 81 then (bif Nat.beq pc 80 then some (.aload_n 0, 1, 0, 0, 0, mj_u) else none) else
      (bif Nat.blt pc 84 then (bif Nat.beq pc 81 then some (.getfield 18, 3, 3, 2, 202, .null) else none) else
       (bif Nat.beq pc 84 then some (.aload_n 0, 1, 0, 0, 0, mj_u) else none))) else
     (bif Nat.blt pc 91 then (bif Nat.blt pc 88 then (bif Nat.beq pc 85 then some (.getfield 9, 3, 3, 1, 200, .null) else none) else
       (bif Nat.beq pc 88 then some (.invokevirtual 73, 3, 24, 0, 361, mj_u) else none)) else
      (bif Nat.blt pc 92 then (bif Nat.beq pc 91 then some (.istore_n 2, 1, 2, 0, 0, mj_u) else none) else
       (bif Nat.beq pc 92 then some (.iload_n 2, 1, 2, 0, 0, mj_u) else none)))) else
    (bif Nat.blt pc 98 then (bif Nat.blt pc 96 then (bif Nat.beq pc 93 then some (.ifCond .lt 8, 3, 101, 0, 0, mj_u) else none) else
      (bif Nat.blt pc 97 then (bif Nat.beq pc 96 then some (.aload_n 0, 1, 0, 0, 0, mj_u) else none) else
       (bif Nat.beq pc 97 then some (.iload_n 2, 1, 2, 0, 0, mj_u) else none))) else
     (bif Nat.blt pc 104 then (bif Nat.blt pc 101 then (bif Nat.beq pc 98 then some (.invokevirtual 77, 3, 25, 0, 365, mj_u) else none) else
       (bif Nat.beq pc 101 then some (.iinc 1 1, 3, 1, 0, 0, .int 1) else none)) else
      (bif Nat.blt pc 107 then (bif Nat.beq pc 104 then some (.goto (-35), 3, 69, 0, 0, mj_u) else none) else
       (bif Nat.beq pc 107 then some (.return_, 1, 0, 0, 0, mj_u) else none))))))
def m_Hollows_findLevels : mj_M := (20, prog_5_method_3_code, 3, (Option.none : Option Jvm.ClassFile.FieldType), 3, 0, 348, 347, 1, 48, 108, k_Hollows_findLevels)
/-- WatershedMap$Frontier.clear()V -/
def k_Frontier_clear : Nat → Option mj_I := fun pc =>
  bif Nat.blt pc 2 then (bif Nat.blt pc 1 then (bif Nat.beq pc 0 then some (.aload_n 0, 1, 0, 0, 0, mj_u) else none) else
   (bif Nat.beq pc 1 then some (.iconst 0, 1, 0, 0, 0, .int 0) else none)) else
  (bif Nat.blt pc 5 then (bif Nat.beq pc 2 then some (.putfield 15, 3, 1, 1, 183, .int 0) else none) else
   (bif Nat.beq pc 5 then some (.return_, 1, 0, 0, 0, mj_u) else none))
def m_Frontier_clear : mj_M := (21, prog_3_method_2_code, 1, (Option.none : Option Jvm.ClassFile.FieldType), 1, 0, 352, 350, 351, 49, 6, k_Frontier_clear)
/-- WatershedMap$Land.atEdge(I)Z -/
def k_Land_atEdge : Nat → Option mj_I := fun pc =>
  bif Nat.blt pc 16 then (bif Nat.blt pc 5 then (bif Nat.blt pc 2 then (bif Nat.blt pc 1 then (bif Nat.beq pc 0 then some (.iconst 0, 1, 0, 0, 0, .int 0) else none) else
     (bif Nat.beq pc 1 then some (.istore_n 2, 1, 2, 0, 0, mj_u) else none)) else
    (bif Nat.blt pc 3 then (bif Nat.beq pc 2 then some (.iconst 0, 1, 0, 0, 0, .int 0) else none) else
     (bif Nat.blt pc 4 then (bif Nat.beq pc 3 then some (.istore_n 3, 1, 3, 0, 0, mj_u) else none) else
      (bif Nat.beq pc 4 then some (.iload_n 3, 1, 3, 0, 0, mj_u) else none)))) else
   (bif Nat.blt pc 11 then (bif Nat.blt pc 7 then (bif Nat.beq pc 5 then some (.bipush 8, 2, 0, 0, 0, .int 8) else none) else
     (bif Nat.blt pc 10 then (bif Nat.beq pc 7 then some (.if_icmp .ge 28, 3, 35, 0, 0, mj_u) else none) else
      (bif Nat.beq pc 10 then some (.iload_n 2, 1, 2, 0, 0, mj_u) else none))) else
    (bif Nat.blt pc 14 then (bif Nat.beq pc 11 then some (.ifCond .ne 12, 3, 23, 0, 0, mj_u) else none) else
     (bif Nat.blt pc 15 then (bif Nat.beq pc 14 then some (.aload_n 0, 1, 0, 0, 0, mj_u) else none) else
      (bif Nat.beq pc 15 then some (.iload_n 1, 1, 1, 0, 0, mj_u) else none))))) else
  (bif Nat.blt pc 27 then (bif Nat.blt pc 20 then (bif Nat.blt pc 17 then (bif Nat.beq pc 16 then some (.iload_n 3, 1, 3, 0, 0, mj_u) else none) else
     (bif Nat.beq pc 17 then some (.invokevirtual 55, 3, 16, 0, 329, mj_u) else none)) else
    (bif Nat.blt pc 23 then (bif Nat.beq pc 20 then some (.ifCond .ge 7, 3, 27, 0, 0, mj_u) else none) else
     (bif Nat.blt pc 24 then (bif Nat.beq pc 23 then some (.iconst 1, 1, 0, 0, 0, .int 1) else none) else
      (bif Nat.beq pc 24 then some (.goto 4, 3, 28, 0, 0, mj_u) else none)))) else
   (bif Nat.blt pc 32 then (bif Nat.blt pc 28 then (bif Nat.beq pc 27 then some (.iconst 0, 1, 0, 0, 0, .int 0) else none) else
     (bif Nat.blt pc 29 then (bif Nat.beq pc 28 then some (.istore_n 2, 1, 2, 0, 0, mj_u) else none) else
      (bif Nat.beq pc 29 then some (.iinc 3 2, 3, 3, 0, 0, .int 2) else none))) else
    (bif Nat.blt pc 35 then (bif Nat.beq pc 32 then some (.goto (-28), 3, 4, 0, 0, mj_u) else none) else
     (bif Nat.blt pc 36 then (bif Nat.beq pc 35 then some (.iload_n 2, 1, 2, 0, 0, mj_u) else none) else
      (bif Nat.beq pc 36 then some (.ireturn, 1, 0, 0, 0, mj_u) else none)))))
def m_Land_atEdge : mj_M := (22, prog_6_method_7_code, 4, (Option.some Jvm.ClassFile.FieldType.boolean), 4, 1, 356, 354, 355, 46, 37, k_Land_atEdge)
/-- WatershedMap$Frontier.add(I)V -/
def k_Frontier_add : Nat → Option mj_I := fun pc =>
  bif Nat.blt pc 18 then (bif Nat.blt pc 10 then (bif Nat.blt pc 4 then (bif Nat.blt pc 1 then (bif Nat.beq pc 0 then some (.aload_n 0, 1, 0, 0, 0, mj_u) else none) else
     (bif Nat.beq pc 1 then some (.getfield 15, 3, 1, 1, 183, .int 0) else none)) else
    (bif Nat.blt pc 7 then (bif Nat.beq pc 4 then some (.sipush 256, 3, 0, 0, 0, .int 256) else none) else
     (bif Nat.beq pc 7 then some (.if_icmp .ge 23, 3, 30, 0, 0, mj_u) else none))) else
   (bif Nat.blt pc 14 then (bif Nat.blt pc 11 then (bif Nat.beq pc 10 then some (.aload_n 0, 1, 0, 0, 0, mj_u) else none) else
     (bif Nat.beq pc 11 then some (.getfield 9, 3, 1, 0, 182, .null) else none)) else
    (bif Nat.blt pc 15 then (bif Nat.beq pc 14 then some (.aload_n 0, 1, 0, 0, 0, mj_u) else none) else
     (bif Nat.beq pc 15 then some (.getfield 15, 3, 1, 1, 183, .int 0) else none)))) else
  (bif Nat.blt pc 22 then (bif Nat.blt pc 20 then (bif Nat.blt pc 19 then (bif Nat.beq pc 18 then some (.iload_n 1, 1, 1, 0, 0, mj_u) else none) else
     (bif Nat.beq pc 19 then some (.iastore, 1, 0, 0, 0, mj_u) else none)) else
    (bif Nat.blt pc 21 then (bif Nat.beq pc 20 then some (.aload_n 0, 1, 0, 0, 0, mj_u) else none) else
     (bif Nat.beq pc 21 then some (.dup, 1, 0, 0, 0, mj_u) else none))) else
   (bif Nat.blt pc 26 then (bif Nat.blt pc 25 then (bif Nat.beq pc 22 then some (.getfield 15, 3, 1, 1, 183, .int 0) else none) else
     (bif Nat.beq pc 25 then some (.iconst 1, 1, 0, 0, 0, .int 1) else none)) else
    (bif Nat.blt pc 27 then (bif Nat.beq pc 26 then some (.iadd, 1, 0, 0, 0, mj_u) else none) else
     (bif Nat.blt pc 30 then (bif Nat.beq pc 27 then some (.putfield 15, 3, 1, 1, 183, .int 0) else none) else
      (bif Nat.beq pc 30 then some (.return_, 1, 0, 0, 0, mj_u) else none)))))
def m_Frontier_add : mj_M := (23, prog_3_method_3_code, 2, (Option.none : Option Jvm.ClassFile.FieldType), 1, 1, 360, 358, 359, 49, 31, k_Frontier_add)
/-- WatershedMap$Frontier.takeLeast([I)I -/
def k_Frontier_takeLeast : Nat → Option mj_I := fun pc =>
  bif Nat.blt pc 40 then (bif Nat.blt pc 21 then (bif Nat.blt pc 10 then (bif Nat.blt pc 7 then (bif Nat.blt pc 1 then (bif Nat.beq pc 0 then some (.aload_n 0, 1, 0, 0, 0, mj_u) else none) else
      (bif Nat.blt pc 4 then (bif Nat.beq pc 1 then some (.getfield 15, 3, 1, 1, 183, .int 0) else none) else
       (bif Nat.beq pc 4 then some (.ifCond .ne 5, 3, 9, 0, 0, mj_u) else none))) else
     (bif Nat.blt pc 8 then (bif Nat.beq pc 7 then some (.iconst (-1), 1, 0, 0, 0, .int (-1)) else none) else
      (bif Nat.blt pc 9 then (bif Nat.beq pc 8 then some (.ireturn, 1, 0, 0, 0, mj_u) else none) else
       (bif Nat.beq pc 9 then some (.iconst 0, 1, 0, 0, 0, .int 0) else none)))) else
    (bif Nat.blt pc 13 then (bif Nat.blt pc 11 then (bif Nat.beq pc 10 then some (.istore_n 2, 1, 2, 0, 0, mj_u) else none) else
      (bif Nat.blt pc 12 then (bif Nat.beq pc 11 then some (.iconst 1, 1, 0, 0, 0, .int 1) else none) else
       (bif Nat.beq pc 12 then some (.istore_n 3, 1, 3, 0, 0, mj_u) else none))) else
     (bif Nat.blt pc 15 then (bif Nat.blt pc 14 then (bif Nat.beq pc 13 then some (.iload_n 3, 1, 3, 0, 0, mj_u) else none) else
       (bif Nat.beq pc 14 then some (.aload_n 0, 1, 0, 0, 0, mj_u) else none)) else
      (bif Nat.blt pc 18 then (bif Nat.beq pc 15 then some (.getfield 15, 3, 1, 1, 183, .int 0) else none) else
       (bif Nat.beq pc 18 then some (.if_icmp .ge 30, 3, 48, 0, 0, mj_u) else none))))) else
   (bif Nat.blt pc 29 then (bif Nat.blt pc 26 then (bif Nat.blt pc 22 then (bif Nat.beq pc 21 then some (.aload_n 1, 1, 1, 0, 0, mj_u) else none) else
      (bif Nat.blt pc 23 then (bif Nat.beq pc 22 then some (.aload_n 0, 1, 0, 0, 0, mj_u) else none) else
       (bif Nat.beq pc 23 then some (.getfield 9, 3, 1, 0, 182, .null) else none))) else
     (bif Nat.blt pc 27 then (bif Nat.beq pc 26 then some (.iload_n 3, 1, 3, 0, 0, mj_u) else none) else
      (bif Nat.blt pc 28 then (bif Nat.beq pc 27 then some (.iaload, 1, 0, 0, 0, mj_u) else none) else
       (bif Nat.beq pc 28 then some (.iaload, 1, 0, 0, 0, mj_u) else none)))) else
    (bif Nat.blt pc 34 then (bif Nat.blt pc 30 then (bif Nat.beq pc 29 then some (.aload_n 1, 1, 1, 0, 0, mj_u) else none) else
      (bif Nat.blt pc 31 then (bif Nat.beq pc 30 then some (.aload_n 0, 1, 0, 0, 0, mj_u) else none) else
       (bif Nat.beq pc 31 then some (.getfield 9, 3, 1, 0, 182, .null) else none))) else
     (bif Nat.blt pc 36 then (bif Nat.blt pc 35 then (bif Nat.beq pc 34 then some (.iload_n 2, 1, 2, 0, 0, mj_u) else none) else
       (bif Nat.beq pc 35 then some (.iaload, 1, 0, 0, 0, mj_u) else none)) else
      (bif Nat.blt pc 37 then (bif Nat.beq pc 36 then some (.iaload, 1, 0, 0, 0, mj_u) else none) else
       (bif Nat.beq pc 37 then some (.if_icmp .ge 5, 3, 42, 0, 0, mj_u) else none)))))) else
  (bif Nat.blt pc 61 then (bif Nat.blt pc 52 then (bif Nat.blt pc 45 then (bif Nat.blt pc 41 then (bif Nat.beq pc 40 then some (.iload_n 3, 1, 3, 0, 0, mj_u) else none) else
      (bif Nat.blt pc 42 then (bif Nat.beq pc 41 then some (.istore_n 2, 1, 2, 0, 0, mj_u) else none) else
       (bif Nat.beq pc 42 then some (.iinc 3 1, 3, 3, 0, 0, .int 1) else none))) else
     (bif Nat.blt pc 48 then (bif Nat.beq pc 45 then some (.goto (-32), 3, 13, 0, 0, mj_u) else none) else
      (bif Nat.blt pc 49 then (bif Nat.beq pc 48 then some (.aload_n 0, 1, 0, 0, 0, mj_u) else none) else
       (bif Nat.beq pc 49 then some (.getfield 9, 3, 1, 0, 182, .null) else none)))) else
    (bif Nat.blt pc 55 then (bif Nat.blt pc 53 then (bif Nat.beq pc 52 then some (.iload_n 2, 1, 2, 0, 0, mj_u) else none) else
      (bif Nat.blt pc 54 then (bif Nat.beq pc 53 then some (.iaload, 1, 0, 0, 0, mj_u) else none) else
       (bif Nat.beq pc 54 then some (.istore_n 3, 1, 3, 0, 0, mj_u) else none))) else
     (bif Nat.blt pc 57 then (bif Nat.blt pc 56 then (bif Nat.beq pc 55 then some (.aload_n 0, 1, 0, 0, 0, mj_u) else none) else
       (bif Nat.beq pc 56 then some (.dup, 1, 0, 0, 0, mj_u) else none)) else
      (bif Nat.blt pc 60 then (bif Nat.beq pc 57 then some (.getfield 15, 3, 1, 1, 183, .int 0) else none) else
       (bif Nat.beq pc 60 then some (.iconst 1, 1, 0, 0, 0, .int 1) else none))))) else
   (bif Nat.blt pc 71 then (bif Nat.blt pc 66 then (bif Nat.blt pc 62 then (bif Nat.beq pc 61 then some (.isub, 1, 0, 0, 0, mj_u) else none) else
      (bif Nat.blt pc 65 then (bif Nat.beq pc 62 then some (.putfield 15, 3, 1, 1, 183, .int 0) else none) else
       (bif Nat.beq pc 65 then some (.aload_n 0, 1, 0, 0, 0, mj_u) else none))) else
     (bif Nat.blt pc 69 then (bif Nat.beq pc 66 then some (.getfield 9, 3, 1, 0, 182, .null) else none) else
      (bif Nat.blt pc 70 then (bif Nat.beq pc 69 then some (.iload_n 2, 1, 2, 0, 0, mj_u) else none) else
       (bif Nat.beq pc 70 then some (.aload_n 0, 1, 0, 0, 0, mj_u) else none)))) else
    (bif Nat.blt pc 78 then (bif Nat.blt pc 74 then (bif Nat.beq pc 71 then some (.getfield 9, 3, 1, 0, 182, .null) else none) else
      (bif Nat.blt pc 75 then (bif Nat.beq pc 74 then some (.aload_n 0, 1, 0, 0, 0, mj_u) else none) else
       (bif Nat.beq pc 75 then some (.getfield 15, 3, 1, 1, 183, .int 0) else none))) else
     (bif Nat.blt pc 80 then (bif Nat.blt pc 79 then (bif Nat.beq pc 78 then some (.iaload, 1, 0, 0, 0, mj_u) else none) else
       (bif Nat.beq pc 79 then some (.iastore, 1, 0, 0, 0, mj_u) else none)) else
      (bif Nat.blt pc 81 then (bif Nat.beq pc 80 then some (.iload_n 3, 1, 3, 0, 0, mj_u) else none) else
       (bif Nat.beq pc 81 then some (.ireturn, 1, 0, 0, 0, mj_u) else none))))))
def m_Frontier_takeLeast : mj_M := (24, prog_3_method_4_code, 4, (Option.some Jvm.ClassFile.FieldType.int), 1, 1, 364, 362, 363, 49, 82, k_Frontier_takeLeast)
/-- WatershedMap$Hollows.spread(I)V -/
def k_Hollows_spread : Nat → Option mj_I := fun pc =>
  bif Nat.blt pc 33 then (bif Nat.blt pc 17 then (bif Nat.blt pc 8 then (bif Nat.blt pc 2 then (bif Nat.blt pc 1 then (bif Nat.beq pc 0 then some (.iconst 0, 1, 0, 0, 0, .int 0) else none) else
      (bif Nat.beq pc 1 then some (.istore_n 2, 1, 2, 0, 0, mj_u) else none)) else
     (bif Nat.blt pc 3 then (bif Nat.beq pc 2 then some (.iload_n 2, 1, 2, 0, 0, mj_u) else none) else
      (bif Nat.blt pc 5 then (bif Nat.beq pc 3 then some (.bipush 8, 2, 0, 0, 0, .int 8) else none) else
       (bif Nat.beq pc 5 then some (.if_icmp .ge 65, 3, 70, 0, 0, mj_u) else none)))) else
    (bif Nat.blt pc 12 then (bif Nat.blt pc 9 then (bif Nat.beq pc 8 then some (.aload_n 0, 1, 0, 0, 0, mj_u) else none) else
      (bif Nat.beq pc 9 then some (.getfield 29, 3, 3, 0, 199, .null) else none)) else
     (bif Nat.blt pc 13 then (bif Nat.beq pc 12 then some (.iload_n 1, 1, 1, 0, 0, mj_u) else none) else
      (bif Nat.blt pc 14 then (bif Nat.beq pc 13 then some (.iload_n 2, 1, 2, 0, 0, mj_u) else none) else
       (bif Nat.beq pc 14 then some (.invokevirtual 52, 3, 16, 0, 369, mj_u) else none))))) else
   (bif Nat.blt pc 26 then (bif Nat.blt pc 19 then (bif Nat.blt pc 18 then (bif Nat.beq pc 17 then some (.istore_n 3, 1, 3, 0, 0, mj_u) else none) else
      (bif Nat.beq pc 18 then some (.iload_n 3, 1, 3, 0, 0, mj_u) else none)) else
     (bif Nat.blt pc 22 then (bif Nat.beq pc 19 then some (.ifCond .lt 45, 3, 64, 0, 0, mj_u) else none) else
      (bif Nat.blt pc 23 then (bif Nat.beq pc 22 then some (.aload_n 0, 1, 0, 0, 0, mj_u) else none) else
       (bif Nat.beq pc 23 then some (.getfield 9, 3, 3, 1, 200, .null) else none)))) else
    (bif Nat.blt pc 28 then (bif Nat.blt pc 27 then (bif Nat.beq pc 26 then some (.iload_n 3, 1, 3, 0, 0, mj_u) else none) else
      (bif Nat.beq pc 27 then some (.iaload, 1, 0, 0, 0, mj_u) else none)) else
     (bif Nat.blt pc 29 then (bif Nat.beq pc 28 then some (.iconst (-1), 1, 0, 0, 0, .int (-1)) else none) else
      (bif Nat.blt pc 32 then (bif Nat.beq pc 29 then some (.if_icmp .ne 35, 3, 64, 0, 0, mj_u) else none) else
       (bif Nat.beq pc 32 then some (.aload_n 0, 1, 0, 0, 0, mj_u) else none)))))) else
  (bif Nat.blt pc 51 then (bif Nat.blt pc 42 then (bif Nat.blt pc 37 then (bif Nat.blt pc 36 then (bif Nat.beq pc 33 then some (.getfield 9, 3, 3, 1, 200, .null) else none) else
      (bif Nat.beq pc 36 then some (.iload_n 3, 1, 3, 0, 0, mj_u) else none)) else
     (bif Nat.blt pc 38 then (bif Nat.beq pc 37 then some (.aload_n 0, 1, 0, 0, 0, mj_u) else none) else
      (bif Nat.blt pc 41 then (bif Nat.beq pc 38 then some (.getfield 9, 3, 3, 1, 200, .null) else none) else
       (bif Nat.beq pc 41 then some (.iload_n 1, 1, 1, 0, 0, mj_u) else none)))) else
    (bif Nat.blt pc 44 then (bif Nat.blt pc 43 then (bif Nat.beq pc 42 then some (.iaload, 1, 0, 0, 0, mj_u) else none) else
      (bif Nat.beq pc 43 then some (.aload_n 0, 1, 0, 0, 0, mj_u) else none)) else
     (bif Nat.blt pc 47 then (bif Nat.beq pc 44 then some (.getfield 29, 3, 3, 0, 199, .null) else none) else
      (bif Nat.blt pc 50 then (bif Nat.beq pc 47 then some (.getfield 66, 3, 4, 0, 90, .null) else none) else
       (bif Nat.beq pc 50 then some (.iload_n 3, 1, 3, 0, 0, mj_u) else none))))) else
   (bif Nat.blt pc 60 then (bif Nat.blt pc 55 then (bif Nat.blt pc 52 then (bif Nat.beq pc 51 then some (.iaload, 1, 0, 0, 0, mj_u) else none) else
      (bif Nat.beq pc 52 then some (.invokestatic 80, 3, 26, 0, 370, mj_u) else none)) else
     (bif Nat.blt pc 56 then (bif Nat.beq pc 55 then some (.iastore, 1, 0, 0, 0, mj_u) else none) else
      (bif Nat.blt pc 57 then (bif Nat.beq pc 56 then some (.aload_n 0, 1, 0, 0, 0, mj_u) else none) else
       (bif Nat.beq pc 57 then some (.getfield 18, 3, 3, 2, 202, .null) else none)))) else
    (bif Nat.blt pc 64 then (bif Nat.blt pc 61 then (bif Nat.beq pc 60 then some (.iload_n 3, 1, 3, 0, 0, mj_u) else none) else
      (bif Nat.beq pc 61 then some (.invokevirtual 69, 3, 23, 0, 357, mj_u) else none)) else
     (bif Nat.blt pc 67 then (bif Nat.beq pc 64 then some (.iinc 2 2, 3, 2, 0, 0, .int 2) else none) else
      (bif Nat.blt pc 70 then (bif Nat.beq pc 67 then some (.goto (-65), 3, 2, 0, 0, mj_u) else none) else
       (bif Nat.beq pc 70 then some (.return_, 1, 0, 0, 0, mj_u) else none))))))
def m_Hollows_spread : mj_M := (25, prog_5_method_4_code, 4, (Option.none : Option Jvm.ClassFile.FieldType), 3, 1, 368, 367, 2, 48, 71, k_Hollows_spread)
/-- java/lang/Math.max(II)I static -/
def k_Math_max : Nat → Option mj_I := fun pc =>
  bif Nat.blt pc 5 then (bif Nat.blt pc 1 then (bif Nat.beq pc 0 then some (.iload_n 0, 1, 0, 0, 0, mj_u) else none) else
   (bif Nat.blt pc 2 then (bif Nat.beq pc 1 then some (.iload_n 1, 1, 1, 0, 0, mj_u) else none) else
    (bif Nat.beq pc 2 then some (.if_icmp .lt 7, 3, 9, 0, 0, mj_u) else none))) else
  (bif Nat.blt pc 9 then (bif Nat.blt pc 6 then (bif Nat.beq pc 5 then some (.iload_n 0, 1, 0, 0, 0, mj_u) else none) else
    (bif Nat.beq pc 6 then some (.goto 4, 3, 10, 0, 0, mj_u) else none)) else
   (bif Nat.blt pc 10 then (bif Nat.beq pc 9 then some (.iload_n 1, 1, 1, 0, 0, mj_u) else none) else
    (bif Nat.beq pc 10 then some (.ireturn, 1, 0, 0, 0, mj_u) else none)))
def m_Math_max : mj_M := (26, prog_22_method_65_code, 2, (Option.some Jvm.ClassFile.FieldType.int), 12, 2, 372, 371, 0, 62, 11, k_Math_max)
/-- WatershedMap$Groups.part()V -/
def k_Groups_part : Nat → Option mj_I := fun pc =>
  bif Nat.blt pc 10 then (bif Nat.blt pc 3 then (bif Nat.blt pc 1 then (bif Nat.beq pc 0 then some (.iconst 0, 1, 0, 0, 0, .int 0) else none) else
    (bif Nat.blt pc 2 then (bif Nat.beq pc 1 then some (.istore_n 1, 1, 1, 0, 0, mj_u) else none) else
     (bif Nat.beq pc 2 then some (.iload_n 1, 1, 1, 0, 0, mj_u) else none))) else
   (bif Nat.blt pc 6 then (bif Nat.beq pc 3 then some (.sipush 512, 3, 0, 0, 0, .int 512) else none) else
    (bif Nat.blt pc 9 then (bif Nat.beq pc 6 then some (.if_icmp .ge 16, 3, 22, 0, 0, mj_u) else none) else
     (bif Nat.beq pc 9 then some (.aload_n 0, 1, 0, 0, 0, mj_u) else none)))) else
  (bif Nat.blt pc 15 then (bif Nat.blt pc 13 then (bif Nat.beq pc 10 then some (.getfield 9, 3, 2, 0, 195, .null) else none) else
    (bif Nat.blt pc 14 then (bif Nat.beq pc 13 then some (.iload_n 1, 1, 1, 0, 0, mj_u) else none) else
     (bif Nat.beq pc 14 then some (.iload_n 1, 1, 1, 0, 0, mj_u) else none))) else
   (bif Nat.blt pc 19 then (bif Nat.blt pc 16 then (bif Nat.beq pc 15 then some (.iastore, 1, 0, 0, 0, mj_u) else none) else
     (bif Nat.beq pc 16 then some (.iinc 1 1, 3, 1, 0, 0, .int 1) else none)) else
    (bif Nat.blt pc 22 then (bif Nat.beq pc 19 then some (.goto (-17), 3, 2, 0, 0, mj_u) else none) else
     (bif Nat.beq pc 22 then some (.return_, 1, 0, 0, 0, mj_u) else none))))
def m_Groups_part : mj_M := (27, prog_4_method_2_code, 2, (Option.none : Option Jvm.ClassFile.FieldType), 2, 0, 376, 374, 375, 50, 23, k_Groups_part)
/-- WatershedMap$Hollows.inLake(I)Z -/
def k_Hollows_inLake : Nat → Option mj_I := fun pc =>
  bif Nat.blt pc 8 then (bif Nat.blt pc 2 then (bif Nat.blt pc 1 then (bif Nat.beq pc 0 then some (.aload_n 0, 1, 0, 0, 0, mj_u) else none) else
    (bif Nat.beq pc 1 then some (.iload_n 1, 1, 1, 0, 0, mj_u) else none)) else
   (bif Nat.blt pc 5 then (bif Nat.beq pc 2 then some (.invokevirtual 89, 3, 29, 0, 381, mj_u) else none) else
    (bif Nat.beq pc 5 then some (.ifCond .le 7, 3, 12, 0, 0, mj_u) else none))) else
  (bif Nat.blt pc 12 then (bif Nat.blt pc 9 then (bif Nat.beq pc 8 then some (.iconst 1, 1, 0, 0, 0, .int 1) else none) else
    (bif Nat.beq pc 9 then some (.goto 4, 3, 13, 0, 0, mj_u) else none)) else
   (bif Nat.blt pc 13 then (bif Nat.beq pc 12 then some (.iconst 0, 1, 0, 0, 0, .int 0) else none) else
    (bif Nat.beq pc 13 then some (.ireturn, 1, 0, 0, 0, mj_u) else none)))
def m_Hollows_inLake : mj_M := (28, prog_5_method_6_code, 2, (Option.some Jvm.ClassFile.FieldType.boolean), 3, 1, 380, 379, 3, 48, 14, k_Hollows_inLake)
/-- WatershedMap$Hollows.depth(I)I -/
def k_Hollows_depth : Nat → Option mj_I := fun pc =>
  bif Nat.blt pc 7 then (bif Nat.blt pc 4 then (bif Nat.blt pc 1 then (bif Nat.beq pc 0 then some (.aload_n 0, 1, 0, 0, 0, mj_u) else none) else
    (bif Nat.beq pc 1 then some (.getfield 9, 3, 3, 1, 200, .null) else none)) else
   (bif Nat.blt pc 5 then (bif Nat.beq pc 4 then some (.iload_n 1, 1, 1, 0, 0, mj_u) else none) else
    (bif Nat.blt pc 6 then (bif Nat.beq pc 5 then some (.iaload, 1, 0, 0, 0, mj_u) else none) else
     (bif Nat.beq pc 6 then some (.aload_n 0, 1, 0, 0, 0, mj_u) else none)))) else
  (bif Nat.blt pc 14 then (bif Nat.blt pc 10 then (bif Nat.beq pc 7 then some (.getfield 29, 3, 3, 0, 199, .null) else none) else
    (bif Nat.blt pc 13 then (bif Nat.beq pc 10 then some (.getfield 66, 3, 4, 0, 90, .null) else none) else
     (bif Nat.beq pc 13 then some (.iload_n 1, 1, 1, 0, 0, mj_u) else none))) else
   (bif Nat.blt pc 15 then (bif Nat.beq pc 14 then some (.iaload, 1, 0, 0, 0, mj_u) else none) else
    (bif Nat.blt pc 16 then (bif Nat.beq pc 15 then some (.isub, 1, 0, 0, 0, mj_u) else none) else
     (bif Nat.beq pc 16 then some (.ireturn, 1, 0, 0, 0, mj_u) else none))))
def m_Hollows_depth : mj_M := (29, prog_5_method_7_code, 2, (Option.some Jvm.ClassFile.FieldType.int), 3, 1, 384, 383, 4, 48, 17, k_Hollows_depth)
/-- WatershedMap$Hollows.joinLakes(II)V -/
def k_Hollows_joinLakes : Nat → Option mj_I := fun pc =>
  bif Nat.blt pc 17 then (bif Nat.blt pc 6 then (bif Nat.blt pc 4 then (bif Nat.blt pc 1 then (bif Nat.beq pc 0 then some (.iload_n 2, 1, 2, 0, 0, mj_u) else none) else
     (bif Nat.beq pc 1 then some (.ifCond .lt 33, 3, 34, 0, 0, mj_u) else none)) else
    (bif Nat.blt pc 5 then (bif Nat.beq pc 4 then some (.aload_n 0, 1, 0, 0, 0, mj_u) else none) else
     (bif Nat.beq pc 5 then some (.iload_n 2, 1, 2, 0, 0, mj_u) else none))) else
   (bif Nat.blt pc 12 then (bif Nat.blt pc 9 then (bif Nat.beq pc 6 then some (.invokevirtual 48, 3, 28, 0, 377, mj_u) else none) else
     (bif Nat.beq pc 9 then some (.ifCond .eq 25, 3, 34, 0, 0, mj_u) else none)) else
    (bif Nat.blt pc 13 then (bif Nat.beq pc 12 then some (.aload_n 0, 1, 0, 0, 0, mj_u) else none) else
     (bif Nat.blt pc 16 then (bif Nat.beq pc 13 then some (.getfield 25, 3, 3, 3, 203, .null) else none) else
      (bif Nat.beq pc 16 then some (.iload_n 1, 1, 1, 0, 0, mj_u) else none))))) else
  (bif Nat.blt pc 26 then (bif Nat.blt pc 21 then (bif Nat.blt pc 18 then (bif Nat.beq pc 17 then some (.iload_n 2, 1, 2, 0, 0, mj_u) else none) else
     (bif Nat.beq pc 18 then some (.invokevirtual 85, 3, 31, 0, 389, mj_u) else none)) else
    (bif Nat.blt pc 24 then (bif Nat.beq pc 21 then some (.ifCond .eq 13, 3, 34, 0, 0, mj_u) else none) else
     (bif Nat.blt pc 25 then (bif Nat.beq pc 24 then some (.aload_n 0, 1, 0, 0, 0, mj_u) else none) else
      (bif Nat.beq pc 25 then some (.dup, 1, 0, 0, 0, mj_u) else none)))) else
   (bif Nat.blt pc 30 then (bif Nat.blt pc 29 then (bif Nat.beq pc 26 then some (.getfield 39, 3, 3, 4, 204, .int 0) else none) else
     (bif Nat.beq pc 29 then some (.iconst 1, 1, 0, 0, 0, .int 1) else none)) else
    (bif Nat.blt pc 31 then (bif Nat.beq pc 30 then some (.isub, 1, 0, 0, 0, mj_u) else none) else
     (bif Nat.blt pc 34 then (bif Nat.beq pc 31 then some (.putfield 39, 3, 3, 4, 204, .int 0) else none) else
      (bif Nat.beq pc 34 then some (.return_, 1, 0, 0, 0, mj_u) else none)))))
def m_Hollows_joinLakes : mj_M := (30, prog_5_method_5_code, 3, (Option.none : Option Jvm.ClassFile.FieldType), 3, 2, 388, 387, 5, 48, 35, k_Hollows_joinLakes)
/-- WatershedMap$Groups.join(II)Z -/
def k_Groups_join : Nat → Option mj_I := fun pc =>
  bif Nat.blt pc 17 then (bif Nat.blt pc 7 then (bif Nat.blt pc 2 then (bif Nat.blt pc 1 then (bif Nat.beq pc 0 then some (.aload_n 0, 1, 0, 0, 0, mj_u) else none) else
     (bif Nat.beq pc 1 then some (.iload_n 1, 1, 1, 0, 0, mj_u) else none)) else
    (bif Nat.blt pc 5 then (bif Nat.beq pc 2 then some (.invokevirtual 15, 3, 32, 0, 393, mj_u) else none) else
     (bif Nat.blt pc 6 then (bif Nat.beq pc 5 then some (.istore_n 3, 1, 3, 0, 0, mj_u) else none) else
      (bif Nat.beq pc 6 then some (.aload_n 0, 1, 0, 0, 0, mj_u) else none)))) else
   (bif Nat.blt pc 11 then (bif Nat.blt pc 8 then (bif Nat.beq pc 7 then some (.iload_n 2, 1, 2, 0, 0, mj_u) else none) else
     (bif Nat.beq pc 8 then some (.invokevirtual 15, 3, 32, 0, 393, mj_u) else none)) else
    (bif Nat.blt pc 13 then (bif Nat.beq pc 11 then some (.istore 4, 2, 4, 0, 0, mj_u) else none) else
     (bif Nat.blt pc 14 then (bif Nat.beq pc 13 then some (.aload_n 0, 1, 0, 0, 0, mj_u) else none) else
      (bif Nat.beq pc 14 then some (.getfield 9, 3, 2, 0, 195, .null) else none))))) else
  (bif Nat.blt pc 24 then (bif Nat.blt pc 20 then (bif Nat.blt pc 19 then (bif Nat.beq pc 17 then some (.iload 4, 2, 4, 0, 0, mj_u) else none) else
     (bif Nat.beq pc 19 then some (.iload_n 3, 1, 3, 0, 0, mj_u) else none)) else
    (bif Nat.blt pc 21 then (bif Nat.beq pc 20 then some (.iastore, 1, 0, 0, 0, mj_u) else none) else
     (bif Nat.blt pc 23 then (bif Nat.beq pc 21 then some (.iload 4, 2, 4, 0, 0, mj_u) else none) else
      (bif Nat.beq pc 23 then some (.iload_n 3, 1, 3, 0, 0, mj_u) else none)))) else
   (bif Nat.blt pc 28 then (bif Nat.blt pc 27 then (bif Nat.beq pc 24 then some (.if_icmp .eq 7, 3, 31, 0, 0, mj_u) else none) else
     (bif Nat.beq pc 27 then some (.iconst 1, 1, 0, 0, 0, .int 1) else none)) else
    (bif Nat.blt pc 31 then (bif Nat.beq pc 28 then some (.goto 4, 3, 32, 0, 0, mj_u) else none) else
     (bif Nat.blt pc 32 then (bif Nat.beq pc 31 then some (.iconst 0, 1, 0, 0, 0, .int 0) else none) else
      (bif Nat.beq pc 32 then some (.ireturn, 1, 0, 0, 0, mj_u) else none)))))
def m_Groups_join : mj_M := (31, prog_4_method_4_code, 5, (Option.some Jvm.ClassFile.FieldType.boolean), 2, 2, 392, 390, 391, 50, 33, k_Groups_join)
/-- WatershedMap$Groups.leaderOf(I)I -/
def k_Groups_leaderOf : Nat → Option mj_I := fun pc =>
  bif Nat.blt pc 21 then (bif Nat.blt pc 8 then (bif Nat.blt pc 3 then (bif Nat.blt pc 1 then (bif Nat.beq pc 0 then some (.iload_n 1, 1, 1, 0, 0, mj_u) else none) else
     (bif Nat.blt pc 2 then (bif Nat.beq pc 1 then some (.istore_n 2, 1, 2, 0, 0, mj_u) else none) else
      (bif Nat.beq pc 2 then some (.iconst 0, 1, 0, 0, 0, .int 0) else none))) else
    (bif Nat.blt pc 4 then (bif Nat.beq pc 3 then some (.istore_n 3, 1, 3, 0, 0, mj_u) else none) else
     (bif Nat.blt pc 5 then (bif Nat.beq pc 4 then some (.iload_n 3, 1, 3, 0, 0, mj_u) else none) else
      (bif Nat.beq pc 5 then some (.sipush 512, 3, 0, 0, 0, .int 512) else none)))) else
   (bif Nat.blt pc 15 then (bif Nat.blt pc 11 then (bif Nat.beq pc 8 then some (.if_icmp .ge 26, 3, 34, 0, 0, mj_u) else none) else
     (bif Nat.blt pc 12 then (bif Nat.beq pc 11 then some (.aload_n 0, 1, 0, 0, 0, mj_u) else none) else
      (bif Nat.beq pc 12 then some (.getfield 9, 3, 2, 0, 195, .null) else none))) else
    (bif Nat.blt pc 17 then (bif Nat.blt pc 16 then (bif Nat.beq pc 15 then some (.iload_n 2, 1, 2, 0, 0, mj_u) else none) else
      (bif Nat.beq pc 16 then some (.iaload, 1, 0, 0, 0, mj_u) else none)) else
     (bif Nat.blt pc 18 then (bif Nat.beq pc 17 then some (.iload_n 2, 1, 2, 0, 0, mj_u) else none) else
      (bif Nat.beq pc 18 then some (.if_icmp .eq 16, 3, 34, 0, 0, mj_u) else none))))) else
  (bif Nat.blt pc 34 then (bif Nat.blt pc 26 then (bif Nat.blt pc 22 then (bif Nat.beq pc 21 then some (.aload_n 0, 1, 0, 0, 0, mj_u) else none) else
     (bif Nat.blt pc 25 then (bif Nat.beq pc 22 then some (.getfield 9, 3, 2, 0, 195, .null) else none) else
      (bif Nat.beq pc 25 then some (.iload_n 2, 1, 2, 0, 0, mj_u) else none))) else
    (bif Nat.blt pc 28 then (bif Nat.blt pc 27 then (bif Nat.beq pc 26 then some (.iaload, 1, 0, 0, 0, mj_u) else none) else
      (bif Nat.beq pc 27 then some (.istore_n 2, 1, 2, 0, 0, mj_u) else none)) else
     (bif Nat.blt pc 31 then (bif Nat.beq pc 28 then some (.iinc 3 1, 3, 3, 0, 0, .int 1) else none) else
      (bif Nat.beq pc 31 then some (.goto (-27), 3, 4, 0, 0, mj_u) else none)))) else
   (bif Nat.blt pc 39 then (bif Nat.blt pc 35 then (bif Nat.beq pc 34 then some (.aload_n 0, 1, 0, 0, 0, mj_u) else none) else
     (bif Nat.blt pc 38 then (bif Nat.beq pc 35 then some (.getfield 9, 3, 2, 0, 195, .null) else none) else
      (bif Nat.beq pc 38 then some (.iload_n 1, 1, 1, 0, 0, mj_u) else none))) else
    (bif Nat.blt pc 41 then (bif Nat.blt pc 40 then (bif Nat.beq pc 39 then some (.iload_n 2, 1, 2, 0, 0, mj_u) else none) else
      (bif Nat.beq pc 40 then some (.iastore, 1, 0, 0, 0, mj_u) else none)) else
     (bif Nat.blt pc 42 then (bif Nat.beq pc 41 then some (.iload_n 2, 1, 2, 0, 0, mj_u) else none) else
      (bif Nat.beq pc 42 then some (.ireturn, 1, 0, 0, 0, mj_u) else none)))))
def m_Groups_leaderOf : mj_M := (32, prog_4_method_3_code, 4, (Option.some Jvm.ClassFile.FieldType.int), 2, 1, 396, 394, 395, 50, 43, k_Groups_leaderOf)
/-- WatershedMap$Land.raiseTo([I)I -/
def k_Land_raiseTo : Nat → Option mj_I := fun pc =>
  bif Nat.blt pc 16 then (bif Nat.blt pc 6 then (bif Nat.blt pc 3 then (bif Nat.blt pc 1 then (bif Nat.beq pc 0 then some (.iconst 0, 1, 0, 0, 0, .int 0) else none) else
     (bif Nat.blt pc 2 then (bif Nat.beq pc 1 then some (.istore_n 2, 1, 2, 0, 0, mj_u) else none) else
      (bif Nat.beq pc 2 then some (.iconst 0, 1, 0, 0, 0, .int 0) else none))) else
    (bif Nat.blt pc 4 then (bif Nat.beq pc 3 then some (.istore_n 3, 1, 3, 0, 0, mj_u) else none) else
     (bif Nat.blt pc 5 then (bif Nat.beq pc 4 then some (.iload_n 3, 1, 3, 0, 0, mj_u) else none) else
      (bif Nat.beq pc 5 then some (.aload_n 0, 1, 0, 0, 0, mj_u) else none)))) else
   (bif Nat.blt pc 13 then (bif Nat.blt pc 9 then (bif Nat.beq pc 6 then some (.getfield 28, 3, 4, 5, 103, .int 0) else none) else
     (bif Nat.blt pc 12 then (bif Nat.beq pc 9 then some (.if_icmp .ge 24, 3, 33, 0, 0, mj_u) else none) else
      (bif Nat.beq pc 12 then some (.iload_n 2, 1, 2, 0, 0, mj_u) else none))) else
    (bif Nat.blt pc 14 then (bif Nat.beq pc 13 then some (.aload_n 1, 1, 1, 0, 0, mj_u) else none) else
     (bif Nat.blt pc 15 then (bif Nat.beq pc 14 then some (.iload_n 3, 1, 3, 0, 0, mj_u) else none) else
      (bif Nat.beq pc 15 then some (.iaload, 1, 0, 0, 0, mj_u) else none))))) else
  (bif Nat.blt pc 24 then (bif Nat.blt pc 19 then (bif Nat.blt pc 17 then (bif Nat.beq pc 16 then some (.aload_n 0, 1, 0, 0, 0, mj_u) else none) else
     (bif Nat.blt pc 18 then (bif Nat.beq pc 17 then some (.iload_n 3, 1, 3, 0, 0, mj_u) else none) else
      (bif Nat.beq pc 18 then some (.aload_n 1, 1, 1, 0, 0, mj_u) else none))) else
    (bif Nat.blt pc 20 then (bif Nat.beq pc 19 then some (.iload_n 3, 1, 3, 0, 0, mj_u) else none) else
     (bif Nat.blt pc 21 then (bif Nat.beq pc 20 then some (.iaload, 1, 0, 0, 0, mj_u) else none) else
      (bif Nat.beq pc 21 then some (.invokevirtual 80, 3, 17, 0, 333, mj_u) else none)))) else
   (bif Nat.blt pc 27 then (bif Nat.blt pc 25 then (bif Nat.beq pc 24 then some (.isub, 1, 0, 0, 0, mj_u) else none) else
     (bif Nat.blt pc 26 then (bif Nat.beq pc 25 then some (.iadd, 1, 0, 0, 0, mj_u) else none) else
      (bif Nat.beq pc 26 then some (.istore_n 2, 1, 2, 0, 0, mj_u) else none))) else
    (bif Nat.blt pc 33 then (bif Nat.blt pc 30 then (bif Nat.beq pc 27 then some (.iinc 3 1, 3, 3, 0, 0, .int 1) else none) else
      (bif Nat.beq pc 30 then some (.goto (-26), 3, 4, 0, 0, mj_u) else none)) else
     (bif Nat.blt pc 34 then (bif Nat.beq pc 33 then some (.iload_n 2, 1, 2, 0, 0, mj_u) else none) else
      (bif Nat.beq pc 34 then some (.ireturn, 1, 0, 0, 0, mj_u) else none)))))
def m_Land_raiseTo : mj_M := (33, prog_6_method_22_code, 4, (Option.some Jvm.ClassFile.FieldType.int), 4, 1, 400, 398, 399, 46, 35, k_Land_raiseTo)
/-- WatershedMap.basins()I -/
def k_W_basins : Nat → Option mj_I := fun pc =>
  bif Nat.blt pc 15 then (bif Nat.blt pc 5 then (bif Nat.blt pc 1 then (bif Nat.beq pc 0 then some (.aload_n 0, 1, 0, 0, 0, mj_u) else none) else
    (bif Nat.blt pc 4 then (bif Nat.beq pc 1 then some (.getfield 21, 3, 8, 1, 297, .null) else none) else
     (bif Nat.beq pc 4 then some (.aload_n 0, 1, 0, 0, 0, mj_u) else none))) else
   (bif Nat.blt pc 11 then (bif Nat.blt pc 8 then (bif Nat.beq pc 5 then some (.getfield 57, 3, 8, 7, 303, .int 0) else none) else
     (bif Nat.beq pc 8 then some (.invokevirtual 100, 3, 35, 0, 405, mj_u) else none)) else
    (bif Nat.blt pc 12 then (bif Nat.beq pc 11 then some (.aload_n 0, 1, 0, 0, 0, mj_u) else none) else
     (bif Nat.beq pc 12 then some (.getfield 21, 3, 8, 1, 297, .null) else none)))) else
  (bif Nat.blt pc 24 then (bif Nat.blt pc 20 then (bif Nat.blt pc 17 then (bif Nat.beq pc 15 then some (.bipush 8, 2, 0, 0, 0, .int 8) else none) else
     (bif Nat.beq pc 17 then some (.invokevirtual 127, 3, 42, 0, 436, mj_u) else none)) else
    (bif Nat.blt pc 21 then (bif Nat.beq pc 20 then some (.aload_n 0, 1, 0, 0, 0, mj_u) else none) else
     (bif Nat.beq pc 21 then some (.getfield 21, 3, 8, 1, 297, .null) else none))) else
   (bif Nat.blt pc 29 then (bif Nat.blt pc 26 then (bif Nat.beq pc 24 then some (.bipush 9, 2, 0, 0, 0, .int 9) else none) else
     (bif Nat.beq pc 26 then some (.invokevirtual 127, 3, 42, 0, 436, mj_u) else none)) else
    (bif Nat.blt pc 30 then (bif Nat.beq pc 29 then some (.iadd, 1, 0, 0, 0, mj_u) else none) else
     (bif Nat.beq pc 30 then some (.ireturn, 1, 0, 0, 0, mj_u) else none))))
def m_W_basins : mj_M := (34, prog_1_method_14_code, 1, (Option.some Jvm.ClassFile.FieldType.int), 8, 0, 404, 402, 403, 45, 31, k_W_basins)
/-- WatershedMap$Streams.run(I)V -/
def k_Streams_run : Nat → Option mj_I := fun pc =>
  bif Nat.blt pc 40 then (bif Nat.blt pc 21 then (bif Nat.blt pc 7 then (bif Nat.blt pc 2 then (bif Nat.blt pc 1 then (bif Nat.beq pc 0 then some (.iconst 0, 1, 0, 0, 0, .int 0) else none) else
      (bif Nat.beq pc 1 then some (.istore_n 2, 1, 2, 0, 0, mj_u) else none)) else
     (bif Nat.blt pc 3 then (bif Nat.beq pc 2 then some (.iload_n 2, 1, 2, 0, 0, mj_u) else none) else
      (bif Nat.blt pc 4 then (bif Nat.beq pc 3 then some (.aload_n 0, 1, 0, 0, 0, mj_u) else none) else
       (bif Nat.beq pc 4 then some (.getfield 43, 3, 6, 0, 127, .null) else none)))) else
    (bif Nat.blt pc 14 then (bif Nat.blt pc 10 then (bif Nat.beq pc 7 then some (.getfield 47, 3, 4, 5, 102, .int 0) else none) else
      (bif Nat.blt pc 13 then (bif Nat.beq pc 10 then some (.if_icmp .ge 14, 3, 24, 0, 0, mj_u) else none) else
       (bif Nat.beq pc 13 then some (.aload_n 0, 1, 0, 0, 0, mj_u) else none))) else
     (bif Nat.blt pc 15 then (bif Nat.beq pc 14 then some (.iload_n 2, 1, 2, 0, 0, mj_u) else none) else
      (bif Nat.blt pc 18 then (bif Nat.beq pc 15 then some (.invokevirtual 53, 3, 36, 0, 409, mj_u) else none) else
       (bif Nat.beq pc 18 then some (.iinc 2 1, 3, 2, 0, 0, .int 1) else none))))) else
   (bif Nat.blt pc 30 then (bif Nat.blt pc 25 then (bif Nat.blt pc 24 then (bif Nat.beq pc 21 then some (.goto (-19), 3, 2, 0, 0, mj_u) else none) else
      (bif Nat.beq pc 24 then some (.aload_n 0, 1, 0, 0, 0, mj_u) else none)) else
     (bif Nat.blt pc 28 then (bif Nat.beq pc 25 then some (.invokevirtual 57, 3, 38, 0, 418, mj_u) else none) else
      (bif Nat.blt pc 29 then (bif Nat.beq pc 28 then some (.iconst 0, 1, 0, 0, 0, .int 0) else none) else
       (bif Nat.beq pc 29 then some (.istore_n 2, 1, 2, 0, 0, mj_u) else none)))) else
    (bif Nat.blt pc 35 then (bif Nat.blt pc 31 then (bif Nat.beq pc 30 then some (.iload_n 2, 1, 2, 0, 0, mj_u) else none) else
      (bif Nat.blt pc 32 then (bif Nat.beq pc 31 then some (.aload_n 0, 1, 0, 0, 0, mj_u) else none) else
       (bif Nat.beq pc 32 then some (.getfield 60, 3, 6, 11, 143, .int 0) else none))) else
     (bif Nat.blt pc 38 then (bif Nat.beq pc 35 then some (.if_icmp .ge 20, 3, 55, 0, 0, mj_u) else none) else
      (bif Nat.blt pc 39 then (bif Nat.beq pc 38 then some (.aload_n 0, 1, 0, 0, 0, mj_u) else none) else
       (bif Nat.beq pc 39 then some (.aload_n 0, 1, 0, 0, 0, mj_u) else none)))))) else
  (bif Nat.blt pc 61 then (bif Nat.blt pc 49 then (bif Nat.blt pc 44 then (bif Nat.blt pc 43 then (bif Nat.beq pc 40 then some (.getfield 40, 3, 6, 10, 142, .null) else none) else
      (bif Nat.beq pc 43 then some (.iload_n 2, 1, 2, 0, 0, mj_u) else none)) else
     (bif Nat.blt pc 45 then (bif Nat.beq pc 44 then some (.iaload, 1, 0, 0, 0, mj_u) else none) else
      (bif Nat.blt pc 46 then (bif Nat.beq pc 45 then some (.iload_n 1, 1, 1, 0, 0, mj_u) else none) else
       (bif Nat.beq pc 46 then some (.invokevirtual 63, 3, 40, 0, 427, mj_u) else none)))) else
    (bif Nat.blt pc 56 then (bif Nat.blt pc 52 then (bif Nat.beq pc 49 then some (.iinc 2 1, 3, 2, 0, 0, .int 1) else none) else
      (bif Nat.blt pc 55 then (bif Nat.beq pc 52 then some (.goto (-22), 3, 30, 0, 0, mj_u) else none) else
       (bif Nat.beq pc 55 then some (.aload_n 0, 1, 0, 0, 0, mj_u) else none))) else
     (bif Nat.blt pc 59 then (bif Nat.beq pc 56 then some (.getfield 60, 3, 6, 11, 143, .int 0) else none) else
      (bif Nat.blt pc 60 then (bif Nat.beq pc 59 then some (.iconst 1, 1, 0, 0, 0, .int 1) else none) else
       (bif Nat.beq pc 60 then some (.isub, 1, 0, 0, 0, mj_u) else none))))) else
   (bif Nat.blt pc 71 then (bif Nat.blt pc 66 then (bif Nat.blt pc 62 then (bif Nat.beq pc 61 then some (.istore_n 2, 1, 2, 0, 0, mj_u) else none) else
      (bif Nat.blt pc 63 then (bif Nat.beq pc 62 then some (.iload_n 2, 1, 2, 0, 0, mj_u) else none) else
       (bif Nat.beq pc 63 then some (.ifCond .lt 19, 3, 82, 0, 0, mj_u) else none))) else
     (bif Nat.blt pc 67 then (bif Nat.beq pc 66 then some (.aload_n 0, 1, 0, 0, 0, mj_u) else none) else
      (bif Nat.blt pc 68 then (bif Nat.beq pc 67 then some (.aload_n 0, 1, 0, 0, 0, mj_u) else none) else
       (bif Nat.beq pc 68 then some (.getfield 40, 3, 6, 10, 142, .null) else none)))) else
    (bif Nat.blt pc 76 then (bif Nat.blt pc 72 then (bif Nat.beq pc 71 then some (.iload_n 2, 1, 2, 0, 0, mj_u) else none) else
      (bif Nat.blt pc 73 then (bif Nat.beq pc 72 then some (.iaload, 1, 0, 0, 0, mj_u) else none) else
       (bif Nat.beq pc 73 then some (.invokevirtual 67, 3, 41, 0, 432, mj_u) else none))) else
     (bif Nat.blt pc 79 then (bif Nat.beq pc 76 then some (.iinc 2 (-1), 3, 2, 0, 0, .int (-1)) else none) else
      (bif Nat.blt pc 82 then (bif Nat.beq pc 79 then some (.goto (-17), 3, 62, 0, 0, mj_u) else none) else
       (bif Nat.beq pc 82 then some (.return_, 1, 0, 0, 0, mj_u) else none))))))
def m_Streams_run : mj_M := (35, prog_8_method_2_code, 3, (Option.none : Option Jvm.ClassFile.FieldType), 6, 1, 408, 406, 407, 47, 83, k_Streams_run)
/-- WatershedMap$Streams.chooseDirection(I)V -/
def k_Streams_chooseDirection : Nat → Option mj_I := fun pc =>
  bif Nat.blt pc 61 then (bif Nat.blt pc 31 then (bif Nat.blt pc 12 then (bif Nat.blt pc 6 then (bif Nat.blt pc 2 then (bif Nat.blt pc 1 then (bif Nat.beq pc 0 then some (.iconst 0, 1, 0, 0, 0, .int 0) else none) else
       (bif Nat.beq pc 1 then some (.istore_n 2, 1, 2, 0, 0, mj_u) else none)) else
      (bif Nat.blt pc 3 then (bif Nat.beq pc 2 then some (.aload_n 0, 1, 0, 0, 0, mj_u) else none) else
       (bif Nat.beq pc 3 then some (.getfield 9, 3, 6, 1, 128, .null) else none))) else
     (bif Nat.blt pc 8 then (bif Nat.blt pc 7 then (bif Nat.beq pc 6 then some (.iload_n 1, 1, 1, 0, 0, mj_u) else none) else
       (bif Nat.beq pc 7 then some (.aload_n 0, 1, 0, 0, 0, mj_u) else none)) else
      (bif Nat.blt pc 11 then (bif Nat.beq pc 8 then some (.getfield 43, 3, 6, 0, 127, .null) else none) else
       (bif Nat.beq pc 11 then some (.iload_n 1, 1, 1, 0, 0, mj_u) else none)))) else
    (bif Nat.blt pc 23 then (bif Nat.blt pc 18 then (bif Nat.blt pc 15 then (bif Nat.beq pc 12 then some (.invokevirtual 70, 3, 22, 0, 413, mj_u) else none) else
       (bif Nat.beq pc 15 then some (.ifCond .eq 8, 3, 23, 0, 0, mj_u) else none)) else
      (bif Nat.blt pc 20 then (bif Nat.beq pc 18 then some (.bipush 8, 2, 0, 0, 0, .int 8) else none) else
       (bif Nat.beq pc 20 then some (.goto 5, 3, 25, 0, 0, mj_u) else none))) else
     (bif Nat.blt pc 26 then (bif Nat.blt pc 25 then (bif Nat.beq pc 23 then some (.bipush 9, 2, 0, 0, 0, .int 9) else none) else
       (bif Nat.beq pc 25 then some (.iastore, 1, 0, 0, 0, mj_u) else none)) else
      (bif Nat.blt pc 27 then (bif Nat.beq pc 26 then some (.aload_n 0, 1, 0, 0, 0, mj_u) else none) else
       (bif Nat.blt pc 30 then (bif Nat.beq pc 27 then some (.getfield 15, 3, 6, 2, 129, .null) else none) else
        (bif Nat.beq pc 30 then some (.iload_n 1, 1, 1, 0, 0, mj_u) else none)))))) else
   (bif Nat.blt pc 42 then (bif Nat.blt pc 35 then (bif Nat.blt pc 33 then (bif Nat.blt pc 32 then (bif Nat.beq pc 31 then some (.iconst (-1), 1, 0, 0, 0, .int (-1)) else none) else
       (bif Nat.beq pc 32 then some (.iastore, 1, 0, 0, 0, mj_u) else none)) else
      (bif Nat.blt pc 34 then (bif Nat.beq pc 33 then some (.iconst 0, 1, 0, 0, 0, .int 0) else none) else
       (bif Nat.beq pc 34 then some (.istore_n 3, 1, 3, 0, 0, mj_u) else none))) else
     (bif Nat.blt pc 38 then (bif Nat.blt pc 36 then (bif Nat.beq pc 35 then some (.iload_n 3, 1, 3, 0, 0, mj_u) else none) else
       (bif Nat.beq pc 36 then some (.bipush 8, 2, 0, 0, 0, .int 8) else none)) else
      (bif Nat.blt pc 41 then (bif Nat.beq pc 38 then some (.if_icmp .ge 86, 3, 124, 0, 0, mj_u) else none) else
       (bif Nat.beq pc 41 then some (.aload_n 0, 1, 0, 0, 0, mj_u) else none)))) else
    (bif Nat.blt pc 50 then (bif Nat.blt pc 46 then (bif Nat.blt pc 45 then (bif Nat.beq pc 42 then some (.getfield 43, 3, 6, 0, 127, .null) else none) else
       (bif Nat.beq pc 45 then some (.iload_n 1, 1, 1, 0, 0, mj_u) else none)) else
      (bif Nat.blt pc 47 then (bif Nat.beq pc 46 then some (.iload_n 3, 1, 3, 0, 0, mj_u) else none) else
       (bif Nat.beq pc 47 then some (.invokevirtual 74, 3, 16, 0, 414, mj_u) else none))) else
     (bif Nat.blt pc 54 then (bif Nat.blt pc 52 then (bif Nat.beq pc 50 then some (.istore 4, 2, 4, 0, 0, mj_u) else none) else
       (bif Nat.beq pc 52 then some (.iload 4, 2, 4, 0, 0, mj_u) else none)) else
      (bif Nat.blt pc 57 then (bif Nat.beq pc 54 then some (.ifCond .lt 64, 3, 118, 0, 0, mj_u) else none) else
       (bif Nat.blt pc 58 then (bif Nat.beq pc 57 then some (.aload_n 0, 1, 0, 0, 0, mj_u) else none) else
        (bif Nat.beq pc 58 then some (.getfield 43, 3, 6, 0, 127, .null) else none))))))) else
  (bif Nat.blt pc 94 then (bif Nat.blt pc 76 then (bif Nat.blt pc 67 then (bif Nat.blt pc 65 then (bif Nat.blt pc 64 then (bif Nat.beq pc 61 then some (.getfield 78, 3, 4, 0, 91, .null) else none) else
       (bif Nat.beq pc 64 then some (.iload_n 1, 1, 1, 0, 0, mj_u) else none)) else
      (bif Nat.blt pc 66 then (bif Nat.beq pc 65 then some (.iaload, 1, 0, 0, 0, mj_u) else none) else
       (bif Nat.beq pc 66 then some (.aload_n 0, 1, 0, 0, 0, mj_u) else none))) else
     (bif Nat.blt pc 73 then (bif Nat.blt pc 70 then (bif Nat.beq pc 67 then some (.getfield 43, 3, 6, 0, 127, .null) else none) else
       (bif Nat.beq pc 70 then some (.getfield 78, 3, 4, 0, 91, .null) else none)) else
      (bif Nat.blt pc 75 then (bif Nat.beq pc 73 then some (.iload 4, 2, 4, 0, 0, mj_u) else none) else
       (bif Nat.beq pc 75 then some (.iaload, 1, 0, 0, 0, mj_u) else none)))) else
    (bif Nat.blt pc 84 then (bif Nat.blt pc 78 then (bif Nat.blt pc 77 then (bif Nat.beq pc 76 then some (.isub, 1, 0, 0, 0, mj_u) else none) else
       (bif Nat.beq pc 77 then some (.iload_n 3, 1, 3, 0, 0, mj_u) else none)) else
      (bif Nat.blt pc 81 then (bif Nat.beq pc 78 then some (.invokestatic 81, 3, 37, 0, 415, mj_u) else none) else
       (bif Nat.beq pc 81 then some (.ifCond .eq 8, 3, 89, 0, 0, mj_u) else none))) else
     (bif Nat.blt pc 89 then (bif Nat.blt pc 86 then (bif Nat.beq pc 84 then some (.bipush 7, 2, 0, 0, 0, .int 7) else none) else
       (bif Nat.beq pc 86 then some (.goto 5, 3, 91, 0, 0, mj_u) else none)) else
      (bif Nat.blt pc 91 then (bif Nat.beq pc 89 then some (.bipush 10, 2, 0, 0, 0, .int 10) else none) else
       (bif Nat.blt pc 92 then (bif Nat.beq pc 91 then some (.imul, 1, 0, 0, 0, mj_u) else none) else
        (bif Nat.beq pc 92 then some (.istore 5, 2, 5, 0, 0, mj_u) else none)))))) else
   (bif Nat.blt pc 109 then (bif Nat.blt pc 102 then (bif Nat.blt pc 97 then (bif Nat.blt pc 96 then (bif Nat.beq pc 94 then some (.iload 5, 2, 5, 0, 0, mj_u) else none) else
       (bif Nat.beq pc 96 then some (.iload_n 2, 1, 2, 0, 0, mj_u) else none)) else
      (bif Nat.blt pc 100 then (bif Nat.beq pc 97 then some (.if_icmp .le 21, 3, 118, 0, 0, mj_u) else none) else
       (bif Nat.beq pc 100 then some (.iload 5, 2, 5, 0, 0, mj_u) else none))) else
     (bif Nat.blt pc 104 then (bif Nat.blt pc 103 then (bif Nat.beq pc 102 then some (.istore_n 2, 1, 2, 0, 0, mj_u) else none) else
       (bif Nat.beq pc 103 then some (.aload_n 0, 1, 0, 0, 0, mj_u) else none)) else
      (bif Nat.blt pc 107 then (bif Nat.beq pc 104 then some (.getfield 9, 3, 6, 1, 128, .null) else none) else
       (bif Nat.blt pc 108 then (bif Nat.beq pc 107 then some (.iload_n 1, 1, 1, 0, 0, mj_u) else none) else
        (bif Nat.beq pc 108 then some (.iload_n 3, 1, 3, 0, 0, mj_u) else none))))) else
    (bif Nat.blt pc 115 then (bif Nat.blt pc 111 then (bif Nat.blt pc 110 then (bif Nat.beq pc 109 then some (.iastore, 1, 0, 0, 0, mj_u) else none) else
       (bif Nat.beq pc 110 then some (.aload_n 0, 1, 0, 0, 0, mj_u) else none)) else
      (bif Nat.blt pc 114 then (bif Nat.beq pc 111 then some (.getfield 15, 3, 6, 2, 129, .null) else none) else
       (bif Nat.beq pc 114 then some (.iload_n 1, 1, 1, 0, 0, mj_u) else none))) else
     (bif Nat.blt pc 118 then (bif Nat.blt pc 117 then (bif Nat.beq pc 115 then some (.iload 4, 2, 4, 0, 0, mj_u) else none) else
       (bif Nat.beq pc 117 then some (.iastore, 1, 0, 0, 0, mj_u) else none)) else
      (bif Nat.blt pc 121 then (bif Nat.beq pc 118 then some (.iinc 3 1, 3, 3, 0, 0, .int 1) else none) else
       (bif Nat.blt pc 124 then (bif Nat.beq pc 121 then some (.goto (-86), 3, 35, 0, 0, mj_u) else none) else
        (bif Nat.beq pc 124 then some (.return_, 1, 0, 0, 0, mj_u) else none)))))))
def m_Streams_chooseDirection : mj_M := (36, prog_8_method_3_code, 6, (Option.none : Option Jvm.ClassFile.FieldType), 6, 1, 412, 411, 6, 47, 125, k_Streams_chooseDirection)
/-- WatershedMap$Land.slanted(I)Z static -/
def k_Land_slanted : Nat → Option mj_I := fun pc =>
  bif Nat.blt pc 4 then (bif Nat.blt pc 2 then (bif Nat.blt pc 1 then (bif Nat.beq pc 0 then some (.iload_n 0, 1, 0, 0, 0, mj_u) else none) else
    (bif Nat.beq pc 1 then some (.iconst 2, 1, 0, 0, 0, .int 2) else none)) else
   (bif Nat.blt pc 3 then (bif Nat.beq pc 2 then some (.irem, 1, 0, 0, 0, mj_u) else none) else
    (bif Nat.beq pc 3 then some (.iconst 1, 1, 0, 0, 0, .int 1) else none))) else
  (bif Nat.blt pc 8 then (bif Nat.blt pc 7 then (bif Nat.beq pc 4 then some (.if_icmp .ne 7, 3, 11, 0, 0, mj_u) else none) else
    (bif Nat.beq pc 7 then some (.iconst 1, 1, 0, 0, 0, .int 1) else none)) else
   (bif Nat.blt pc 11 then (bif Nat.beq pc 8 then some (.goto 4, 3, 12, 0, 0, mj_u) else none) else
    (bif Nat.blt pc 12 then (bif Nat.beq pc 11 then some (.iconst 0, 1, 0, 0, 0, .int 0) else none) else
     (bif Nat.beq pc 12 then some (.ireturn, 1, 0, 0, 0, mj_u) else none))))
def m_Land_slanted : mj_M := (37, prog_6_method_8_code, 1, (Option.some Jvm.ClassFile.FieldType.boolean), 4, 1, 417, 416, 0, 46, 13, k_Land_slanted)
/-- WatershedMap$Streams.putInOrder()V -/
def k_Streams_putInOrder : Nat → Option mj_I := fun pc =>
  bif Nat.blt pc 75 then (bif Nat.blt pc 39 then (bif Nat.blt pc 18 then (bif Nat.blt pc 9 then (bif Nat.blt pc 4 then (bif Nat.blt pc 1 then (bif Nat.beq pc 0 then some (.aload_n 0, 1, 0, 0, 0, mj_u) else none) else
       (bif Nat.beq pc 1 then some (.getfield 33, 3, 6, 8, 140, .null) else none)) else
      (bif Nat.blt pc 5 then (bif Nat.beq pc 4 then some (.iconst 0, 1, 0, 0, 0, .int 0) else none) else
       (bif Nat.blt pc 8 then (bif Nat.beq pc 5 then some (.invokestatic 84, 3, 10, 0, 422, mj_u) else none) else
        (bif Nat.beq pc 8 then some (.iconst 0, 1, 0, 0, 0, .int 0) else none)))) else
     (bif Nat.blt pc 11 then (bif Nat.blt pc 10 then (bif Nat.beq pc 9 then some (.istore_n 1, 1, 1, 0, 0, mj_u) else none) else
       (bif Nat.beq pc 10 then some (.iload_n 1, 1, 1, 0, 0, mj_u) else none)) else
      (bif Nat.blt pc 12 then (bif Nat.beq pc 11 then some (.aload_n 0, 1, 0, 0, 0, mj_u) else none) else
       (bif Nat.blt pc 15 then (bif Nat.beq pc 12 then some (.getfield 43, 3, 6, 0, 127, .null) else none) else
        (bif Nat.beq pc 15 then some (.getfield 47, 3, 4, 5, 102, .int 0) else none))))) else
    (bif Nat.blt pc 27 then (bif Nat.blt pc 22 then (bif Nat.blt pc 21 then (bif Nat.beq pc 18 then some (.if_icmp .ge 33, 3, 51, 0, 0, mj_u) else none) else
       (bif Nat.beq pc 21 then some (.aload_n 0, 1, 0, 0, 0, mj_u) else none)) else
      (bif Nat.blt pc 25 then (bif Nat.beq pc 22 then some (.getfield 15, 3, 6, 2, 129, .null) else none) else
       (bif Nat.blt pc 26 then (bif Nat.beq pc 25 then some (.iload_n 1, 1, 1, 0, 0, mj_u) else none) else
        (bif Nat.beq pc 26 then some (.iaload, 1, 0, 0, 0, mj_u) else none)))) else
     (bif Nat.blt pc 34 then (bif Nat.blt pc 30 then (bif Nat.beq pc 27 then some (.ifCond .lt 18, 3, 45, 0, 0, mj_u) else none) else
       (bif Nat.blt pc 31 then (bif Nat.beq pc 30 then some (.aload_n 0, 1, 0, 0, 0, mj_u) else none) else
        (bif Nat.beq pc 31 then some (.getfield 33, 3, 6, 8, 140, .null) else none))) else
      (bif Nat.blt pc 35 then (bif Nat.beq pc 34 then some (.aload_n 0, 1, 0, 0, 0, mj_u) else none) else
       (bif Nat.blt pc 38 then (bif Nat.beq pc 35 then some (.getfield 15, 3, 6, 2, 129, .null) else none) else
        (bif Nat.beq pc 38 then some (.iload_n 1, 1, 1, 0, 0, mj_u) else none)))))) else
   (bif Nat.blt pc 56 then (bif Nat.blt pc 44 then (bif Nat.blt pc 41 then (bif Nat.blt pc 40 then (bif Nat.beq pc 39 then some (.iaload, 1, 0, 0, 0, mj_u) else none) else
       (bif Nat.beq pc 40 then some (.dup2, 1, 0, 0, 0, mj_u) else none)) else
      (bif Nat.blt pc 42 then (bif Nat.beq pc 41 then some (.iaload, 1, 0, 0, 0, mj_u) else none) else
       (bif Nat.blt pc 43 then (bif Nat.beq pc 42 then some (.iconst 1, 1, 0, 0, 0, .int 1) else none) else
        (bif Nat.beq pc 43 then some (.iadd, 1, 0, 0, 0, mj_u) else none)))) else
     (bif Nat.blt pc 51 then (bif Nat.blt pc 45 then (bif Nat.beq pc 44 then some (.iastore, 1, 0, 0, 0, mj_u) else none) else
       (bif Nat.blt pc 48 then (bif Nat.beq pc 45 then some (.iinc 1 1, 3, 1, 0, 0, .int 1) else none) else
        (bif Nat.beq pc 48 then some (.goto (-38), 3, 10, 0, 0, mj_u) else none))) else
      (bif Nat.blt pc 52 then (bif Nat.beq pc 51 then some (.aload_n 0, 1, 0, 0, 0, mj_u) else none) else
       (bif Nat.blt pc 53 then (bif Nat.beq pc 52 then some (.iconst 0, 1, 0, 0, 0, .int 0) else none) else
        (bif Nat.beq pc 53 then some (.putfield 60, 3, 6, 11, 143, .int 0) else none))))) else
    (bif Nat.blt pc 63 then (bif Nat.blt pc 58 then (bif Nat.blt pc 57 then (bif Nat.beq pc 56 then some (.iconst 0, 1, 0, 0, 0, .int 0) else none) else
       (bif Nat.beq pc 57 then some (.istore_n 1, 1, 1, 0, 0, mj_u) else none)) else
      (bif Nat.blt pc 59 then (bif Nat.beq pc 58 then some (.iload_n 1, 1, 1, 0, 0, mj_u) else none) else
       (bif Nat.blt pc 60 then (bif Nat.beq pc 59 then some (.aload_n 0, 1, 0, 0, 0, mj_u) else none) else
        (bif Nat.beq pc 60 then some (.getfield 43, 3, 6, 0, 127, .null) else none)))) else
     (bif Nat.blt pc 70 then (bif Nat.blt pc 66 then (bif Nat.beq pc 63 then some (.getfield 47, 3, 4, 5, 102, .int 0) else none) else
       (bif Nat.blt pc 69 then (bif Nat.beq pc 66 then some (.if_icmp .ge 23, 3, 89, 0, 0, mj_u) else none) else
        (bif Nat.beq pc 69 then some (.aload_n 0, 1, 0, 0, 0, mj_u) else none))) else
      (bif Nat.blt pc 73 then (bif Nat.beq pc 70 then some (.getfield 33, 3, 6, 8, 140, .null) else none) else
       (bif Nat.blt pc 74 then (bif Nat.beq pc 73 then some (.iload_n 1, 1, 1, 0, 0, mj_u) else none) else
        (bif Nat.beq pc 74 then some (.iaload, 1, 0, 0, 0, mj_u) else none))))))) else
  (bif Nat.blt pc 117 then (bif Nat.blt pc 96 then (bif Nat.blt pc 86 then (bif Nat.blt pc 79 then (bif Nat.blt pc 78 then (bif Nat.beq pc 75 then some (.ifCond .ne 8, 3, 83, 0, 0, mj_u) else none) else
       (bif Nat.beq pc 78 then some (.aload_n 0, 1, 0, 0, 0, mj_u) else none)) else
      (bif Nat.blt pc 80 then (bif Nat.beq pc 79 then some (.iload_n 1, 1, 1, 0, 0, mj_u) else none) else
       (bif Nat.blt pc 83 then (bif Nat.beq pc 80 then some (.invokevirtual 90, 3, 39, 0, 423, mj_u) else none) else
        (bif Nat.beq pc 83 then some (.iinc 1 1, 3, 1, 0, 0, .int 1) else none)))) else
     (bif Nat.blt pc 91 then (bif Nat.blt pc 89 then (bif Nat.beq pc 86 then some (.goto (-28), 3, 58, 0, 0, mj_u) else none) else
       (bif Nat.blt pc 90 then (bif Nat.beq pc 89 then some (.iconst 0, 1, 0, 0, 0, .int 0) else none) else
        (bif Nat.beq pc 90 then some (.istore_n 1, 1, 1, 0, 0, mj_u) else none))) else
      (bif Nat.blt pc 92 then (bif Nat.beq pc 91 then some (.iload_n 1, 1, 1, 0, 0, mj_u) else none) else
       (bif Nat.blt pc 93 then (bif Nat.beq pc 92 then some (.aload_n 0, 1, 0, 0, 0, mj_u) else none) else
        (bif Nat.beq pc 93 then some (.getfield 60, 3, 6, 11, 143, .int 0) else none))))) else
    (bif Nat.blt pc 107 then (bif Nat.blt pc 100 then (bif Nat.blt pc 99 then (bif Nat.beq pc 96 then some (.if_icmp .ge 56, 3, 152, 0, 0, mj_u) else none) else
       (bif Nat.beq pc 99 then some (.iload_n 1, 1, 1, 0, 0, mj_u) else none)) else
      (bif Nat.blt pc 103 then (bif Nat.beq pc 100 then some (.sipush 256, 3, 0, 0, 0, .int 256) else none) else
       (bif Nat.blt pc 106 then (bif Nat.beq pc 103 then some (.if_icmp .ge 49, 3, 152, 0, 0, mj_u) else none) else
        (bif Nat.beq pc 106 then some (.aload_n 0, 1, 0, 0, 0, mj_u) else none)))) else
     (bif Nat.blt pc 114 then (bif Nat.blt pc 110 then (bif Nat.beq pc 107 then some (.getfield 15, 3, 6, 2, 129, .null) else none) else
       (bif Nat.blt pc 111 then (bif Nat.beq pc 110 then some (.aload_n 0, 1, 0, 0, 0, mj_u) else none) else
        (bif Nat.beq pc 111 then some (.getfield 40, 3, 6, 10, 142, .null) else none))) else
      (bif Nat.blt pc 115 then (bif Nat.beq pc 114 then some (.iload_n 1, 1, 1, 0, 0, mj_u) else none) else
       (bif Nat.blt pc 116 then (bif Nat.beq pc 115 then some (.iaload, 1, 0, 0, 0, mj_u) else none) else
        (bif Nat.beq pc 116 then some (.iaload, 1, 0, 0, 0, mj_u) else none)))))) else
   (bif Nat.blt pc 132 then (bif Nat.blt pc 126 then (bif Nat.blt pc 119 then (bif Nat.blt pc 118 then (bif Nat.beq pc 117 then some (.istore_n 2, 1, 2, 0, 0, mj_u) else none) else
       (bif Nat.beq pc 118 then some (.iload_n 2, 1, 2, 0, 0, mj_u) else none)) else
      (bif Nat.blt pc 122 then (bif Nat.beq pc 119 then some (.ifCond .lt 27, 3, 146, 0, 0, mj_u) else none) else
       (bif Nat.blt pc 123 then (bif Nat.beq pc 122 then some (.aload_n 0, 1, 0, 0, 0, mj_u) else none) else
        (bif Nat.beq pc 123 then some (.getfield 33, 3, 6, 8, 140, .null) else none)))) else
     (bif Nat.blt pc 129 then (bif Nat.blt pc 127 then (bif Nat.beq pc 126 then some (.iload_n 2, 1, 2, 0, 0, mj_u) else none) else
       (bif Nat.blt pc 128 then (bif Nat.beq pc 127 then some (.dup2, 1, 0, 0, 0, mj_u) else none) else
        (bif Nat.beq pc 128 then some (.iaload, 1, 0, 0, 0, mj_u) else none))) else
      (bif Nat.blt pc 130 then (bif Nat.beq pc 129 then some (.iconst 1, 1, 0, 0, 0, .int 1) else none) else
       (bif Nat.blt pc 131 then (bif Nat.beq pc 130 then some (.isub, 1, 0, 0, 0, mj_u) else none) else
        (bif Nat.beq pc 131 then some (.iastore, 1, 0, 0, 0, mj_u) else none))))) else
    (bif Nat.blt pc 141 then (bif Nat.blt pc 136 then (bif Nat.blt pc 133 then (bif Nat.beq pc 132 then some (.aload_n 0, 1, 0, 0, 0, mj_u) else none) else
       (bif Nat.beq pc 133 then some (.getfield 33, 3, 6, 8, 140, .null) else none)) else
      (bif Nat.blt pc 137 then (bif Nat.beq pc 136 then some (.iload_n 2, 1, 2, 0, 0, mj_u) else none) else
       (bif Nat.blt pc 138 then (bif Nat.beq pc 137 then some (.iaload, 1, 0, 0, 0, mj_u) else none) else
        (bif Nat.beq pc 138 then some (.ifCond .ne 8, 3, 146, 0, 0, mj_u) else none)))) else
     (bif Nat.blt pc 146 then (bif Nat.blt pc 142 then (bif Nat.beq pc 141 then some (.aload_n 0, 1, 0, 0, 0, mj_u) else none) else
       (bif Nat.blt pc 143 then (bif Nat.beq pc 142 then some (.iload_n 2, 1, 2, 0, 0, mj_u) else none) else
        (bif Nat.beq pc 143 then some (.invokevirtual 90, 3, 39, 0, 423, mj_u) else none))) else
      (bif Nat.blt pc 149 then (bif Nat.beq pc 146 then some (.iinc 1 1, 3, 1, 0, 0, .int 1) else none) else
       (bif Nat.blt pc 152 then (bif Nat.beq pc 149 then some (.goto (-58), 3, 91, 0, 0, mj_u) else none) else
        (bif Nat.beq pc 152 then some (.return_, 1, 0, 0, 0, mj_u) else none)))))))
def m_Streams_putInOrder : mj_M := (38, prog_8_method_4_code, 3, (Option.none : Option Jvm.ClassFile.FieldType), 6, 0, 421, 420, 7, 47, 153, k_Streams_putInOrder)
/-- WatershedMap$Streams.putNext(I)V -/
def k_Streams_putNext : Nat → Option mj_I := fun pc =>
  bif Nat.blt pc 34 then (bif Nat.blt pc 19 then (bif Nat.blt pc 10 then (bif Nat.blt pc 4 then (bif Nat.blt pc 1 then (bif Nat.beq pc 0 then some (.aload_n 0, 1, 0, 0, 0, mj_u) else none) else
      (bif Nat.beq pc 1 then some (.getfield 60, 3, 6, 11, 143, .int 0) else none)) else
     (bif Nat.blt pc 7 then (bif Nat.beq pc 4 then some (.sipush 256, 3, 0, 0, 0, .int 256) else none) else
      (bif Nat.beq pc 7 then some (.if_icmp .ge 51, 3, 58, 0, 0, mj_u) else none))) else
    (bif Nat.blt pc 14 then (bif Nat.blt pc 11 then (bif Nat.beq pc 10 then some (.aload_n 0, 1, 0, 0, 0, mj_u) else none) else
      (bif Nat.beq pc 11 then some (.getfield 40, 3, 6, 10, 142, .null) else none)) else
     (bif Nat.blt pc 15 then (bif Nat.beq pc 14 then some (.aload_n 0, 1, 0, 0, 0, mj_u) else none) else
      (bif Nat.blt pc 18 then (bif Nat.beq pc 15 then some (.getfield 60, 3, 6, 11, 143, .int 0) else none) else
       (bif Nat.beq pc 18 then some (.iload_n 1, 1, 1, 0, 0, mj_u) else none))))) else
   (bif Nat.blt pc 25 then (bif Nat.blt pc 21 then (bif Nat.blt pc 20 then (bif Nat.beq pc 19 then some (.iastore, 1, 0, 0, 0, mj_u) else none) else
      (bif Nat.beq pc 20 then some (.aload_n 0, 1, 0, 0, 0, mj_u) else none)) else
     (bif Nat.blt pc 22 then (bif Nat.beq pc 21 then some (.dup, 1, 0, 0, 0, mj_u) else none) else
      (bif Nat.beq pc 22 then some (.getfield 60, 3, 6, 11, 143, .int 0) else none))) else
    (bif Nat.blt pc 27 then (bif Nat.blt pc 26 then (bif Nat.beq pc 25 then some (.iconst 1, 1, 0, 0, 0, .int 1) else none) else
      (bif Nat.beq pc 26 then some (.iadd, 1, 0, 0, 0, mj_u) else none)) else
     (bif Nat.blt pc 30 then (bif Nat.beq pc 27 then some (.putfield 60, 3, 6, 11, 143, .int 0) else none) else
      (bif Nat.blt pc 31 then (bif Nat.beq pc 30 then some (.aload_n 0, 1, 0, 0, 0, mj_u) else none) else
       (bif Nat.beq pc 31 then some (.getfield 18, 3, 6, 3, 131, .null) else none)))))) else
  (bif Nat.blt pc 45 then (bif Nat.blt pc 38 then (bif Nat.blt pc 36 then (bif Nat.blt pc 35 then (bif Nat.beq pc 34 then some (.iload_n 1, 1, 1, 0, 0, mj_u) else none) else
      (bif Nat.beq pc 35 then some (.iconst 1, 1, 0, 0, 0, .int 1) else none)) else
     (bif Nat.blt pc 37 then (bif Nat.beq pc 36 then some (.iastore, 1, 0, 0, 0, mj_u) else none) else
      (bif Nat.beq pc 37 then some (.aload_n 0, 1, 0, 0, 0, mj_u) else none))) else
    (bif Nat.blt pc 42 then (bif Nat.blt pc 41 then (bif Nat.beq pc 38 then some (.getfield 27, 3, 6, 6, 136, .null) else none) else
      (bif Nat.beq pc 41 then some (.iload_n 1, 1, 1, 0, 0, mj_u) else none)) else
     (bif Nat.blt pc 43 then (bif Nat.beq pc 42 then some (.iconst 0, 1, 0, 0, 0, .int 0) else none) else
      (bif Nat.blt pc 44 then (bif Nat.beq pc 43 then some (.iastore, 1, 0, 0, 0, mj_u) else none) else
       (bif Nat.beq pc 44 then some (.aload_n 0, 1, 0, 0, 0, mj_u) else none))))) else
   (bif Nat.blt pc 52 then (bif Nat.blt pc 49 then (bif Nat.blt pc 48 then (bif Nat.beq pc 45 then some (.getfield 30, 3, 6, 7, 138, .null) else none) else
      (bif Nat.beq pc 48 then some (.iload_n 1, 1, 1, 0, 0, mj_u) else none)) else
     (bif Nat.blt pc 50 then (bif Nat.beq pc 49 then some (.iconst 0, 1, 0, 0, 0, .int 0) else none) else
      (bif Nat.blt pc 51 then (bif Nat.beq pc 50 then some (.iastore, 1, 0, 0, 0, mj_u) else none) else
       (bif Nat.beq pc 51 then some (.aload_n 0, 1, 0, 0, 0, mj_u) else none)))) else
    (bif Nat.blt pc 56 then (bif Nat.blt pc 55 then (bif Nat.beq pc 52 then some (.getfield 36, 3, 6, 9, 141, .null) else none) else
      (bif Nat.beq pc 55 then some (.iload_n 1, 1, 1, 0, 0, mj_u) else none)) else
     (bif Nat.blt pc 57 then (bif Nat.beq pc 56 then some (.iconst 0, 1, 0, 0, 0, .int 0) else none) else
      (bif Nat.blt pc 58 then (bif Nat.beq pc 57 then some (.bastore, 1, 0, 0, 0, mj_u) else none) else
       (bif Nat.beq pc 58 then some (.return_, 1, 0, 0, 0, mj_u) else none))))))
def m_Streams_putNext : mj_M := (39, prog_8_method_5_code, 2, (Option.none : Option Jvm.ClassFile.FieldType), 6, 1, 426, 425, 8, 47, 59, k_Streams_putNext)
/-- WatershedMap$Streams.passDown(II)V -/
def k_Streams_passDown : Nat → Option mj_I := fun pc =>
  bif Nat.blt pc 87 then (bif Nat.blt pc 46 then (bif Nat.blt pc 24 then (bif Nat.blt pc 11 then (bif Nat.blt pc 5 then (bif Nat.blt pc 1 then (bif Nat.beq pc 0 then some (.aload_n 0, 1, 0, 0, 0, mj_u) else none) else
       (bif Nat.blt pc 4 then (bif Nat.beq pc 1 then some (.getfield 18, 3, 6, 3, 131, .null) else none) else
        (bif Nat.beq pc 4 then some (.iload_n 1, 1, 1, 0, 0, mj_u) else none))) else
      (bif Nat.blt pc 7 then (bif Nat.blt pc 6 then (bif Nat.beq pc 5 then some (.iaload, 1, 0, 0, 0, mj_u) else none) else
        (bif Nat.beq pc 6 then some (.iload_n 2, 1, 2, 0, 0, mj_u) else none)) else
       (bif Nat.blt pc 10 then (bif Nat.beq pc 7 then some (.if_icmp .lt 55, 3, 62, 0, 0, mj_u) else none) else
        (bif Nat.beq pc 10 then some (.aload_n 0, 1, 0, 0, 0, mj_u) else none)))) else
     (bif Nat.blt pc 16 then (bif Nat.blt pc 14 then (bif Nat.beq pc 11 then some (.getfield 36, 3, 6, 9, 141, .null) else none) else
       (bif Nat.blt pc 15 then (bif Nat.beq pc 14 then some (.iload_n 1, 1, 1, 0, 0, mj_u) else none) else
        (bif Nat.beq pc 15 then some (.baload, 1, 0, 0, 0, mj_u) else none))) else
      (bif Nat.blt pc 20 then (bif Nat.blt pc 19 then (bif Nat.beq pc 16 then some (.ifCond .ne 12, 3, 28, 0, 0, mj_u) else none) else
        (bif Nat.beq pc 19 then some (.aload_n 0, 1, 0, 0, 0, mj_u) else none)) else
       (bif Nat.blt pc 23 then (bif Nat.beq pc 20 then some (.getfield 27, 3, 6, 6, 136, .null) else none) else
        (bif Nat.beq pc 23 then some (.iload_n 1, 1, 1, 0, 0, mj_u) else none))))) else
    (bif Nat.blt pc 35 then (bif Nat.blt pc 29 then (bif Nat.blt pc 25 then (bif Nat.beq pc 24 then some (.iaload, 1, 0, 0, 0, mj_u) else none) else
       (bif Nat.blt pc 28 then (bif Nat.beq pc 25 then some (.ifCond .ne 7, 3, 32, 0, 0, mj_u) else none) else
        (bif Nat.beq pc 28 then some (.iconst 1, 1, 0, 0, 0, .int 1) else none))) else
      (bif Nat.blt pc 33 then (bif Nat.blt pc 32 then (bif Nat.beq pc 29 then some (.goto 4, 3, 33, 0, 0, mj_u) else none) else
        (bif Nat.beq pc 32 then some (.iconst 0, 1, 0, 0, 0, .int 0) else none)) else
       (bif Nat.blt pc 34 then (bif Nat.beq pc 33 then some (.istore_n 3, 1, 3, 0, 0, mj_u) else none) else
        (bif Nat.beq pc 34 then some (.aload_n 0, 1, 0, 0, 0, mj_u) else none)))) else
     (bif Nat.blt pc 40 then (bif Nat.blt pc 38 then (bif Nat.beq pc 35 then some (.getfield 27, 3, 6, 6, 136, .null) else none) else
       (bif Nat.blt pc 39 then (bif Nat.beq pc 38 then some (.iload_n 1, 1, 1, 0, 0, mj_u) else none) else
        (bif Nat.beq pc 39 then some (.dup2, 1, 0, 0, 0, mj_u) else none))) else
      (bif Nat.blt pc 42 then (bif Nat.blt pc 41 then (bif Nat.beq pc 40 then some (.iaload, 1, 0, 0, 0, mj_u) else none) else
        (bif Nat.beq pc 41 then some (.iload_n 3, 1, 3, 0, 0, mj_u) else none)) else
       (bif Nat.blt pc 45 then (bif Nat.beq pc 42 then some (.ifCond .eq 7, 3, 49, 0, 0, mj_u) else none) else
        (bif Nat.beq pc 45 then some (.iconst 1, 1, 0, 0, 0, .int 1) else none)))))) else
   (bif Nat.blt pc 66 then (bif Nat.blt pc 57 then (bif Nat.blt pc 51 then (bif Nat.blt pc 49 then (bif Nat.beq pc 46 then some (.goto 4, 3, 50, 0, 0, mj_u) else none) else
       (bif Nat.blt pc 50 then (bif Nat.beq pc 49 then some (.iconst 0, 1, 0, 0, 0, .int 0) else none) else
        (bif Nat.beq pc 50 then some (.iadd, 1, 0, 0, 0, mj_u) else none))) else
      (bif Nat.blt pc 53 then (bif Nat.blt pc 52 then (bif Nat.beq pc 51 then some (.iastore, 1, 0, 0, 0, mj_u) else none) else
        (bif Nat.beq pc 52 then some (.aload_n 0, 1, 0, 0, 0, mj_u) else none)) else
       (bif Nat.blt pc 56 then (bif Nat.beq pc 53 then some (.getfield 30, 3, 6, 7, 138, .null) else none) else
        (bif Nat.beq pc 56 then some (.iload_n 1, 1, 1, 0, 0, mj_u) else none)))) else
     (bif Nat.blt pc 60 then (bif Nat.blt pc 58 then (bif Nat.beq pc 57 then some (.dup2, 1, 0, 0, 0, mj_u) else none) else
       (bif Nat.blt pc 59 then (bif Nat.beq pc 58 then some (.iaload, 1, 0, 0, 0, mj_u) else none) else
        (bif Nat.beq pc 59 then some (.iconst 1, 1, 0, 0, 0, .int 1) else none))) else
      (bif Nat.blt pc 62 then (bif Nat.blt pc 61 then (bif Nat.beq pc 60 then some (.iadd, 1, 0, 0, 0, mj_u) else none) else
        (bif Nat.beq pc 61 then some (.iastore, 1, 0, 0, 0, mj_u) else none)) else
       (bif Nat.blt pc 63 then (bif Nat.beq pc 62 then some (.aload_n 0, 1, 0, 0, 0, mj_u) else none) else
        (bif Nat.beq pc 63 then some (.getfield 15, 3, 6, 2, 129, .null) else none))))) else
    (bif Nat.blt pc 77 then (bif Nat.blt pc 69 then (bif Nat.blt pc 67 then (bif Nat.beq pc 66 then some (.iload_n 1, 1, 1, 0, 0, mj_u) else none) else
       (bif Nat.blt pc 68 then (bif Nat.beq pc 67 then some (.iaload, 1, 0, 0, 0, mj_u) else none) else
        (bif Nat.beq pc 68 then some (.istore_n 3, 1, 3, 0, 0, mj_u) else none))) else
      (bif Nat.blt pc 73 then (bif Nat.blt pc 70 then (bif Nat.beq pc 69 then some (.iload_n 3, 1, 3, 0, 0, mj_u) else none) else
        (bif Nat.beq pc 70 then some (.ifCond .lt 110, 3, 180, 0, 0, mj_u) else none)) else
       (bif Nat.blt pc 74 then (bif Nat.beq pc 73 then some (.aload_n 0, 1, 0, 0, 0, mj_u) else none) else
        (bif Nat.beq pc 74 then some (.getfield 18, 3, 6, 3, 131, .null) else none)))) else
     (bif Nat.blt pc 81 then (bif Nat.blt pc 79 then (bif Nat.blt pc 78 then (bif Nat.beq pc 77 then some (.iload_n 3, 1, 3, 0, 0, mj_u) else none) else
        (bif Nat.beq pc 78 then some (.dup2, 1, 0, 0, 0, mj_u) else none)) else
       (bif Nat.blt pc 80 then (bif Nat.beq pc 79 then some (.iaload, 1, 0, 0, 0, mj_u) else none) else
        (bif Nat.beq pc 80 then some (.aload_n 0, 1, 0, 0, 0, mj_u) else none))) else
      (bif Nat.blt pc 85 then (bif Nat.blt pc 84 then (bif Nat.beq pc 81 then some (.getfield 18, 3, 6, 3, 131, .null) else none) else
        (bif Nat.beq pc 84 then some (.iload_n 1, 1, 1, 0, 0, mj_u) else none)) else
       (bif Nat.blt pc 86 then (bif Nat.beq pc 85 then some (.iaload, 1, 0, 0, 0, mj_u) else none) else
        (bif Nat.beq pc 86 then some (.iadd, 1, 0, 0, 0, mj_u) else none))))))) else
  (bif Nat.blt pc 134 then (bif Nat.blt pc 109 then (bif Nat.blt pc 98 then (bif Nat.blt pc 92 then (bif Nat.blt pc 88 then (bif Nat.beq pc 87 then some (.iastore, 1, 0, 0, 0, mj_u) else none) else
       (bif Nat.blt pc 89 then (bif Nat.beq pc 88 then some (.aload_n 0, 1, 0, 0, 0, mj_u) else none) else
        (bif Nat.beq pc 89 then some (.getfield 30, 3, 6, 7, 138, .null) else none))) else
      (bif Nat.blt pc 94 then (bif Nat.blt pc 93 then (bif Nat.beq pc 92 then some (.iload_n 3, 1, 3, 0, 0, mj_u) else none) else
        (bif Nat.beq pc 93 then some (.aload_n 0, 1, 0, 0, 0, mj_u) else none)) else
       (bif Nat.blt pc 97 then (bif Nat.beq pc 94 then some (.getfield 30, 3, 6, 7, 138, .null) else none) else
        (bif Nat.beq pc 97 then some (.iload_n 3, 1, 3, 0, 0, mj_u) else none)))) else
     (bif Nat.blt pc 103 then (bif Nat.blt pc 99 then (bif Nat.beq pc 98 then some (.iaload, 1, 0, 0, 0, mj_u) else none) else
       (bif Nat.blt pc 100 then (bif Nat.beq pc 99 then some (.aload_n 0, 1, 0, 0, 0, mj_u) else none) else
        (bif Nat.beq pc 100 then some (.getfield 30, 3, 6, 7, 138, .null) else none))) else
      (bif Nat.blt pc 105 then (bif Nat.blt pc 104 then (bif Nat.beq pc 103 then some (.iload_n 1, 1, 1, 0, 0, mj_u) else none) else
        (bif Nat.beq pc 104 then some (.iaload, 1, 0, 0, 0, mj_u) else none)) else
       (bif Nat.blt pc 108 then (bif Nat.beq pc 105 then some (.invokestatic 93, 3, 26, 0, 431, mj_u) else none) else
        (bif Nat.beq pc 108 then some (.iastore, 1, 0, 0, 0, mj_u) else none))))) else
    (bif Nat.blt pc 120 then (bif Nat.blt pc 114 then (bif Nat.blt pc 110 then (bif Nat.beq pc 109 then some (.aload_n 0, 1, 0, 0, 0, mj_u) else none) else
       (bif Nat.blt pc 113 then (bif Nat.beq pc 110 then some (.getfield 36, 3, 6, 9, 141, .null) else none) else
        (bif Nat.beq pc 113 then some (.iload_n 3, 1, 3, 0, 0, mj_u) else none))) else
      (bif Nat.blt pc 118 then (bif Nat.blt pc 115 then (bif Nat.beq pc 114 then some (.aload_n 0, 1, 0, 0, 0, mj_u) else none) else
        (bif Nat.beq pc 115 then some (.getfield 27, 3, 6, 6, 136, .null) else none)) else
       (bif Nat.blt pc 119 then (bif Nat.beq pc 118 then some (.iload_n 1, 1, 1, 0, 0, mj_u) else none) else
        (bif Nat.beq pc 119 then some (.iaload, 1, 0, 0, 0, mj_u) else none)))) else
     (bif Nat.blt pc 126 then (bif Nat.blt pc 124 then (bif Nat.blt pc 121 then (bif Nat.beq pc 120 then some (.aload_n 0, 1, 0, 0, 0, mj_u) else none) else
        (bif Nat.beq pc 121 then some (.getfield 27, 3, 6, 6, 136, .null) else none)) else
       (bif Nat.blt pc 125 then (bif Nat.beq pc 124 then some (.iload_n 3, 1, 3, 0, 0, mj_u) else none) else
        (bif Nat.beq pc 125 then some (.iaload, 1, 0, 0, 0, mj_u) else none))) else
      (bif Nat.blt pc 130 then (bif Nat.blt pc 129 then (bif Nat.beq pc 126 then some (.if_icmp .eq 27, 3, 153, 0, 0, mj_u) else none) else
        (bif Nat.beq pc 129 then some (.aload_n 0, 1, 0, 0, 0, mj_u) else none)) else
       (bif Nat.blt pc 133 then (bif Nat.beq pc 130 then some (.getfield 36, 3, 6, 9, 141, .null) else none) else
        (bif Nat.beq pc 133 then some (.iload_n 3, 1, 3, 0, 0, mj_u) else none)))))) else
   (bif Nat.blt pc 158 then (bif Nat.blt pc 145 then (bif Nat.blt pc 139 then (bif Nat.blt pc 135 then (bif Nat.beq pc 134 then some (.baload, 1, 0, 0, 0, mj_u) else none) else
       (bif Nat.blt pc 138 then (bif Nat.beq pc 135 then some (.ifCond .eq 22, 3, 157, 0, 0, mj_u) else none) else
        (bif Nat.beq pc 138 then some (.aload_n 0, 1, 0, 0, 0, mj_u) else none))) else
      (bif Nat.blt pc 143 then (bif Nat.blt pc 142 then (bif Nat.beq pc 139 then some (.getfield 27, 3, 6, 6, 136, .null) else none) else
        (bif Nat.beq pc 142 then some (.iload_n 1, 1, 1, 0, 0, mj_u) else none)) else
       (bif Nat.blt pc 144 then (bif Nat.beq pc 143 then some (.iaload, 1, 0, 0, 0, mj_u) else none) else
        (bif Nat.beq pc 144 then some (.aload_n 0, 1, 0, 0, 0, mj_u) else none)))) else
     (bif Nat.blt pc 150 then (bif Nat.blt pc 148 then (bif Nat.beq pc 145 then some (.getfield 27, 3, 6, 6, 136, .null) else none) else
       (bif Nat.blt pc 149 then (bif Nat.beq pc 148 then some (.iload_n 3, 1, 3, 0, 0, mj_u) else none) else
        (bif Nat.beq pc 149 then some (.iaload, 1, 0, 0, 0, mj_u) else none))) else
      (bif Nat.blt pc 154 then (bif Nat.blt pc 153 then (bif Nat.beq pc 150 then some (.if_icmp .ge 7, 3, 157, 0, 0, mj_u) else none) else
        (bif Nat.beq pc 153 then some (.iconst 1, 1, 0, 0, 0, .int 1) else none)) else
       (bif Nat.blt pc 157 then (bif Nat.beq pc 154 then some (.goto 4, 3, 158, 0, 0, mj_u) else none) else
        (bif Nat.beq pc 157 then some (.iconst 0, 1, 0, 0, 0, .int 0) else none))))) else
    (bif Nat.blt pc 169 then (bif Nat.blt pc 163 then (bif Nat.blt pc 159 then (bif Nat.beq pc 158 then some (.bastore, 1, 0, 0, 0, mj_u) else none) else
       (bif Nat.blt pc 160 then (bif Nat.beq pc 159 then some (.aload_n 0, 1, 0, 0, 0, mj_u) else none) else
        (bif Nat.beq pc 160 then some (.getfield 27, 3, 6, 6, 136, .null) else none))) else
      (bif Nat.blt pc 165 then (bif Nat.blt pc 164 then (bif Nat.beq pc 163 then some (.iload_n 3, 1, 3, 0, 0, mj_u) else none) else
        (bif Nat.beq pc 164 then some (.aload_n 0, 1, 0, 0, 0, mj_u) else none)) else
       (bif Nat.blt pc 168 then (bif Nat.beq pc 165 then some (.getfield 27, 3, 6, 6, 136, .null) else none) else
        (bif Nat.beq pc 168 then some (.iload_n 3, 1, 3, 0, 0, mj_u) else none)))) else
     (bif Nat.blt pc 175 then (bif Nat.blt pc 171 then (bif Nat.blt pc 170 then (bif Nat.beq pc 169 then some (.iaload, 1, 0, 0, 0, mj_u) else none) else
        (bif Nat.beq pc 170 then some (.aload_n 0, 1, 0, 0, 0, mj_u) else none)) else
       (bif Nat.blt pc 174 then (bif Nat.beq pc 171 then some (.getfield 27, 3, 6, 6, 136, .null) else none) else
        (bif Nat.beq pc 174 then some (.iload_n 1, 1, 1, 0, 0, mj_u) else none))) else
      (bif Nat.blt pc 179 then (bif Nat.blt pc 176 then (bif Nat.beq pc 175 then some (.iaload, 1, 0, 0, 0, mj_u) else none) else
        (bif Nat.beq pc 176 then some (.invokestatic 93, 3, 26, 0, 431, mj_u) else none)) else
       (bif Nat.blt pc 180 then (bif Nat.beq pc 179 then some (.iastore, 1, 0, 0, 0, mj_u) else none) else
        (bif Nat.beq pc 180 then some (.return_, 1, 0, 0, 0, mj_u) else none)))))))
def m_Streams_passDown : mj_M := (40, prog_8_method_6_code, 4, (Option.none : Option Jvm.ClassFile.FieldType), 6, 2, 430, 429, 9, 47, 181, k_Streams_passDown)
/-- WatershedMap$Streams.findEnd(I)V -/
def k_Streams_findEnd : Nat → Option mj_I := fun pc =>
  bif Nat.blt pc 26 then (bif Nat.blt pc 12 then (bif Nat.blt pc 6 then (bif Nat.blt pc 4 then (bif Nat.blt pc 1 then (bif Nat.beq pc 0 then some (.aload_n 0, 1, 0, 0, 0, mj_u) else none) else
      (bif Nat.beq pc 1 then some (.getfield 15, 3, 6, 2, 129, .null) else none)) else
     (bif Nat.blt pc 5 then (bif Nat.beq pc 4 then some (.iload_n 1, 1, 1, 0, 0, mj_u) else none) else
      (bif Nat.beq pc 5 then some (.iaload, 1, 0, 0, 0, mj_u) else none))) else
    (bif Nat.blt pc 8 then (bif Nat.blt pc 7 then (bif Nat.beq pc 6 then some (.istore_n 2, 1, 2, 0, 0, mj_u) else none) else
      (bif Nat.beq pc 7 then some (.aload_n 0, 1, 0, 0, 0, mj_u) else none)) else
     (bif Nat.blt pc 11 then (bif Nat.beq pc 8 then some (.getfield 21, 3, 6, 4, 133, .null) else none) else
      (bif Nat.beq pc 11 then some (.iload_n 1, 1, 1, 0, 0, mj_u) else none)))) else
   (bif Nat.blt pc 20 then (bif Nat.blt pc 16 then (bif Nat.blt pc 13 then (bif Nat.beq pc 12 then some (.iload_n 2, 1, 2, 0, 0, mj_u) else none) else
      (bif Nat.beq pc 13 then some (.ifCond .ge 7, 3, 20, 0, 0, mj_u) else none)) else
     (bif Nat.blt pc 17 then (bif Nat.beq pc 16 then some (.iload_n 1, 1, 1, 0, 0, mj_u) else none) else
      (bif Nat.beq pc 17 then some (.goto 9, 3, 26, 0, 0, mj_u) else none))) else
    (bif Nat.blt pc 24 then (bif Nat.blt pc 21 then (bif Nat.beq pc 20 then some (.aload_n 0, 1, 0, 0, 0, mj_u) else none) else
      (bif Nat.beq pc 21 then some (.getfield 21, 3, 6, 4, 133, .null) else none)) else
     (bif Nat.blt pc 25 then (bif Nat.beq pc 24 then some (.iload_n 2, 1, 2, 0, 0, mj_u) else none) else
      (bif Nat.beq pc 25 then some (.iaload, 1, 0, 0, 0, mj_u) else none))))) else
  (bif Nat.blt pc 40 then (bif Nat.blt pc 32 then (bif Nat.blt pc 28 then (bif Nat.blt pc 27 then (bif Nat.beq pc 26 then some (.iastore, 1, 0, 0, 0, mj_u) else none) else
      (bif Nat.beq pc 27 then some (.aload_n 0, 1, 0, 0, 0, mj_u) else none)) else
     (bif Nat.blt pc 31 then (bif Nat.beq pc 28 then some (.getfield 24, 3, 6, 5, 135, .null) else none) else
      (bif Nat.beq pc 31 then some (.iload_n 1, 1, 1, 0, 0, mj_u) else none))) else
    (bif Nat.blt pc 36 then (bif Nat.blt pc 33 then (bif Nat.beq pc 32 then some (.iload_n 2, 1, 2, 0, 0, mj_u) else none) else
      (bif Nat.beq pc 33 then some (.ifCond .ge 7, 3, 40, 0, 0, mj_u) else none)) else
     (bif Nat.blt pc 37 then (bif Nat.beq pc 36 then some (.iconst 0, 1, 0, 0, 0, .int 0) else none) else
      (bif Nat.beq pc 37 then some (.goto 11, 3, 48, 0, 0, mj_u) else none)))) else
   (bif Nat.blt pc 46 then (bif Nat.blt pc 44 then (bif Nat.blt pc 41 then (bif Nat.beq pc 40 then some (.aload_n 0, 1, 0, 0, 0, mj_u) else none) else
      (bif Nat.beq pc 41 then some (.getfield 24, 3, 6, 5, 135, .null) else none)) else
     (bif Nat.blt pc 45 then (bif Nat.beq pc 44 then some (.iload_n 2, 1, 2, 0, 0, mj_u) else none) else
      (bif Nat.beq pc 45 then some (.iaload, 1, 0, 0, 0, mj_u) else none))) else
    (bif Nat.blt pc 48 then (bif Nat.blt pc 47 then (bif Nat.beq pc 46 then some (.iconst 1, 1, 0, 0, 0, .int 1) else none) else
      (bif Nat.beq pc 47 then some (.iadd, 1, 0, 0, 0, mj_u) else none)) else
     (bif Nat.blt pc 49 then (bif Nat.beq pc 48 then some (.iastore, 1, 0, 0, 0, mj_u) else none) else
      (bif Nat.beq pc 49 then some (.return_, 1, 0, 0, 0, mj_u) else none)))))
def m_Streams_findEnd : mj_M := (41, prog_8_method_7_code, 3, (Option.none : Option Jvm.ClassFile.FieldType), 6, 1, 435, 434, 10, 47, 50, k_Streams_findEnd)
/-- WatershedMap$Streams.count(I)I -/
def k_Streams_count : Nat → Option mj_I := fun pc =>
  bif Nat.blt pc 20 then (bif Nat.blt pc 6 then (bif Nat.blt pc 3 then (bif Nat.blt pc 1 then (bif Nat.beq pc 0 then some (.iconst 0, 1, 0, 0, 0, .int 0) else none) else
     (bif Nat.blt pc 2 then (bif Nat.beq pc 1 then some (.istore_n 2, 1, 2, 0, 0, mj_u) else none) else
      (bif Nat.beq pc 2 then some (.iconst 0, 1, 0, 0, 0, .int 0) else none))) else
    (bif Nat.blt pc 4 then (bif Nat.beq pc 3 then some (.istore_n 3, 1, 3, 0, 0, mj_u) else none) else
     (bif Nat.blt pc 5 then (bif Nat.beq pc 4 then some (.iload_n 3, 1, 3, 0, 0, mj_u) else none) else
      (bif Nat.beq pc 5 then some (.aload_n 0, 1, 0, 0, 0, mj_u) else none)))) else
   (bif Nat.blt pc 15 then (bif Nat.blt pc 9 then (bif Nat.beq pc 6 then some (.getfield 43, 3, 6, 0, 127, .null) else none) else
     (bif Nat.blt pc 12 then (bif Nat.beq pc 9 then some (.getfield 47, 3, 4, 5, 102, .int 0) else none) else
      (bif Nat.beq pc 12 then some (.if_icmp .ge 27, 3, 39, 0, 0, mj_u) else none))) else
    (bif Nat.blt pc 16 then (bif Nat.beq pc 15 then some (.iload_n 2, 1, 2, 0, 0, mj_u) else none) else
     (bif Nat.blt pc 17 then (bif Nat.beq pc 16 then some (.aload_n 0, 1, 0, 0, 0, mj_u) else none) else
      (bif Nat.beq pc 17 then some (.getfield 9, 3, 6, 1, 128, .null) else none))))) else
  (bif Nat.blt pc 30 then (bif Nat.blt pc 23 then (bif Nat.blt pc 21 then (bif Nat.beq pc 20 then some (.iload_n 3, 1, 3, 0, 0, mj_u) else none) else
     (bif Nat.blt pc 22 then (bif Nat.beq pc 21 then some (.iaload, 1, 0, 0, 0, mj_u) else none) else
      (bif Nat.beq pc 22 then some (.iload_n 1, 1, 1, 0, 0, mj_u) else none))) else
    (bif Nat.blt pc 26 then (bif Nat.beq pc 23 then some (.if_icmp .ne 7, 3, 30, 0, 0, mj_u) else none) else
     (bif Nat.blt pc 27 then (bif Nat.beq pc 26 then some (.iconst 1, 1, 0, 0, 0, .int 1) else none) else
      (bif Nat.beq pc 27 then some (.goto 4, 3, 31, 0, 0, mj_u) else none)))) else
   (bif Nat.blt pc 33 then (bif Nat.blt pc 31 then (bif Nat.beq pc 30 then some (.iconst 0, 1, 0, 0, 0, .int 0) else none) else
     (bif Nat.blt pc 32 then (bif Nat.beq pc 31 then some (.iadd, 1, 0, 0, 0, mj_u) else none) else
      (bif Nat.beq pc 32 then some (.istore_n 2, 1, 2, 0, 0, mj_u) else none))) else
    (bif Nat.blt pc 39 then (bif Nat.blt pc 36 then (bif Nat.beq pc 33 then some (.iinc 3 1, 3, 3, 0, 0, .int 1) else none) else
      (bif Nat.beq pc 36 then some (.goto (-32), 3, 4, 0, 0, mj_u) else none)) else
     (bif Nat.blt pc 40 then (bif Nat.beq pc 39 then some (.iload_n 2, 1, 2, 0, 0, mj_u) else none) else
      (bif Nat.beq pc 40 then some (.ireturn, 1, 0, 0, 0, mj_u) else none)))))
def m_Streams_count : mj_M := (42, prog_8_method_9_code, 4, (Option.some Jvm.ClassFile.FieldType.int), 6, 1, 439, 437, 438, 47, 41, k_Streams_count)
/-- WatershedMap.pits()I -/
def k_W_pits : Nat → Option mj_I := fun pc =>
  bif Nat.blt pc 11 then (bif Nat.blt pc 4 then (bif Nat.blt pc 1 then (bif Nat.beq pc 0 then some (.aload_n 0, 1, 0, 0, 0, mj_u) else none) else
    (bif Nat.beq pc 1 then some (.getfield 21, 3, 8, 1, 297, .null) else none)) else
   (bif Nat.blt pc 5 then (bif Nat.beq pc 4 then some (.aload_n 0, 1, 0, 0, 0, mj_u) else none) else
    (bif Nat.blt pc 8 then (bif Nat.beq pc 5 then some (.getfield 57, 3, 8, 7, 303, .int 0) else none) else
     (bif Nat.beq pc 8 then some (.invokevirtual 100, 3, 35, 0, 405, mj_u) else none)))) else
  (bif Nat.blt pc 15 then (bif Nat.blt pc 12 then (bif Nat.beq pc 11 then some (.aload_n 0, 1, 0, 0, 0, mj_u) else none) else
    (bif Nat.beq pc 12 then some (.getfield 21, 3, 8, 1, 297, .null) else none)) else
   (bif Nat.blt pc 17 then (bif Nat.beq pc 15 then some (.bipush 9, 2, 0, 0, 0, .int 9) else none) else
    (bif Nat.blt pc 20 then (bif Nat.beq pc 17 then some (.invokevirtual 127, 3, 42, 0, 436, mj_u) else none) else
     (bif Nat.beq pc 20 then some (.ireturn, 1, 0, 0, 0, mj_u) else none))))
def m_W_pits : mj_M := (43, prog_1_method_15_code, 1, (Option.some Jvm.ClassFile.FieldType.int), 8, 0, 443, 441, 442, 45, 21, k_W_pits)
/-- WatershedMap.mostRank()I -/
def k_W_mostRank : Nat → Option mj_I := fun pc =>
  bif Nat.blt pc 12 then (bif Nat.blt pc 5 then (bif Nat.blt pc 1 then (bif Nat.beq pc 0 then some (.aload_n 0, 1, 0, 0, 0, mj_u) else none) else
    (bif Nat.blt pc 4 then (bif Nat.beq pc 1 then some (.getfield 21, 3, 8, 1, 297, .null) else none) else
     (bif Nat.beq pc 4 then some (.aload_n 0, 1, 0, 0, 0, mj_u) else none))) else
   (bif Nat.blt pc 8 then (bif Nat.beq pc 5 then some (.getfield 57, 3, 8, 7, 303, .int 0) else none) else
    (bif Nat.blt pc 11 then (bif Nat.beq pc 8 then some (.invokevirtual 100, 3, 35, 0, 405, mj_u) else none) else
     (bif Nat.beq pc 11 then some (.aload_n 0, 1, 0, 0, 0, mj_u) else none)))) else
  (bif Nat.blt pc 19 then (bif Nat.blt pc 15 then (bif Nat.beq pc 12 then some (.getfield 21, 3, 8, 1, 297, .null) else none) else
    (bif Nat.blt pc 16 then (bif Nat.beq pc 15 then some (.aload_n 0, 1, 0, 0, 0, mj_u) else none) else
     (bif Nat.beq pc 16 then some (.getfield 21, 3, 8, 1, 297, .null) else none))) else
   (bif Nat.blt pc 22 then (bif Nat.beq pc 19 then some (.getfield 130, 3, 6, 6, 137, .null) else none) else
    (bif Nat.blt pc 25 then (bif Nat.beq pc 22 then some (.invokevirtual 133, 3, 45, 0, 448, mj_u) else none) else
     (bif Nat.beq pc 25 then some (.ireturn, 1, 0, 0, 0, mj_u) else none))))
def m_W_mostRank : mj_M := (44, prog_1_method_16_code, 1, (Option.some Jvm.ClassFile.FieldType.int), 8, 0, 447, 445, 446, 45, 26, k_W_mostRank)
/-- WatershedMap$Streams.greatestOf([I)I -/
def k_Streams_greatestOf : Nat → Option mj_I := fun pc =>
  bif Nat.blt pc 15 then (bif Nat.blt pc 4 then (bif Nat.blt pc 2 then (bif Nat.blt pc 1 then (bif Nat.beq pc 0 then some (.iconst 0, 1, 0, 0, 0, .int 0) else none) else
     (bif Nat.beq pc 1 then some (.istore_n 2, 1, 2, 0, 0, mj_u) else none)) else
    (bif Nat.blt pc 3 then (bif Nat.beq pc 2 then some (.iconst 0, 1, 0, 0, 0, .int 0) else none) else
     (bif Nat.beq pc 3 then some (.istore_n 3, 1, 3, 0, 0, mj_u) else none))) else
   (bif Nat.blt pc 6 then (bif Nat.blt pc 5 then (bif Nat.beq pc 4 then some (.iload_n 3, 1, 3, 0, 0, mj_u) else none) else
     (bif Nat.beq pc 5 then some (.aload_n 0, 1, 0, 0, 0, mj_u) else none)) else
    (bif Nat.blt pc 9 then (bif Nat.beq pc 6 then some (.getfield 43, 3, 6, 0, 127, .null) else none) else
     (bif Nat.blt pc 12 then (bif Nat.beq pc 9 then some (.getfield 47, 3, 4, 5, 102, .int 0) else none) else
      (bif Nat.beq pc 12 then some (.if_icmp .ge 17, 3, 29, 0, 0, mj_u) else none))))) else
  (bif Nat.blt pc 22 then (bif Nat.blt pc 17 then (bif Nat.blt pc 16 then (bif Nat.beq pc 15 then some (.iload_n 2, 1, 2, 0, 0, mj_u) else none) else
     (bif Nat.beq pc 16 then some (.aload_n 1, 1, 1, 0, 0, mj_u) else none)) else
    (bif Nat.blt pc 18 then (bif Nat.beq pc 17 then some (.iload_n 3, 1, 3, 0, 0, mj_u) else none) else
     (bif Nat.blt pc 19 then (bif Nat.beq pc 18 then some (.iaload, 1, 0, 0, 0, mj_u) else none) else
      (bif Nat.beq pc 19 then some (.invokestatic 93, 3, 26, 0, 431, mj_u) else none)))) else
   (bif Nat.blt pc 26 then (bif Nat.blt pc 23 then (bif Nat.beq pc 22 then some (.istore_n 2, 1, 2, 0, 0, mj_u) else none) else
     (bif Nat.beq pc 23 then some (.iinc 3 1, 3, 3, 0, 0, .int 1) else none)) else
    (bif Nat.blt pc 29 then (bif Nat.beq pc 26 then some (.goto (-22), 3, 4, 0, 0, mj_u) else none) else
     (bif Nat.blt pc 30 then (bif Nat.beq pc 29 then some (.iload_n 2, 1, 2, 0, 0, mj_u) else none) else
      (bif Nat.beq pc 30 then some (.ireturn, 1, 0, 0, 0, mj_u) else none)))))
def m_Streams_greatestOf : mj_M := (45, prog_8_method_10_code, 4, (Option.some Jvm.ClassFile.FieldType.int), 6, 1, 451, 449, 450, 47, 31, k_Streams_greatestOf)
/-- WatershedMap.longestStream()I -/
def k_W_longestStream : Nat → Option mj_I := fun pc =>
  bif Nat.blt pc 12 then (bif Nat.blt pc 5 then (bif Nat.blt pc 1 then (bif Nat.beq pc 0 then some (.aload_n 0, 1, 0, 0, 0, mj_u) else none) else
    (bif Nat.blt pc 4 then (bif Nat.beq pc 1 then some (.getfield 21, 3, 8, 1, 297, .null) else none) else
     (bif Nat.beq pc 4 then some (.aload_n 0, 1, 0, 0, 0, mj_u) else none))) else
   (bif Nat.blt pc 8 then (bif Nat.beq pc 5 then some (.getfield 57, 3, 8, 7, 303, .int 0) else none) else
    (bif Nat.blt pc 11 then (bif Nat.beq pc 8 then some (.invokevirtual 100, 3, 35, 0, 405, mj_u) else none) else
     (bif Nat.beq pc 11 then some (.aload_n 0, 1, 0, 0, 0, mj_u) else none)))) else
  (bif Nat.blt pc 19 then (bif Nat.blt pc 15 then (bif Nat.beq pc 12 then some (.getfield 21, 3, 8, 1, 297, .null) else none) else
    (bif Nat.blt pc 16 then (bif Nat.beq pc 15 then some (.aload_n 0, 1, 0, 0, 0, mj_u) else none) else
     (bif Nat.beq pc 16 then some (.getfield 21, 3, 8, 1, 297, .null) else none))) else
   (bif Nat.blt pc 22 then (bif Nat.beq pc 19 then some (.getfield 136, 3, 6, 7, 139, .null) else none) else
    (bif Nat.blt pc 25 then (bif Nat.beq pc 22 then some (.invokevirtual 133, 3, 45, 0, 448, mj_u) else none) else
     (bif Nat.beq pc 25 then some (.ireturn, 1, 0, 0, 0, mj_u) else none))))
def m_W_longestStream : mj_M := (46, prog_1_method_17_code, 1, (Option.some Jvm.ClassFile.FieldType.int), 8, 0, 455, 453, 454, 45, 26, k_W_longestStream)
/-- WatershedMap.lakes()I -/
def k_W_lakes : Nat → Option mj_I := fun pc =>
  bif Nat.blt pc 7 then (bif Nat.blt pc 1 then (bif Nat.beq pc 0 then some (.aload_n 0, 1, 0, 0, 0, mj_u) else none) else
   (bif Nat.blt pc 4 then (bif Nat.beq pc 1 then some (.getfield 28, 3, 8, 2, 298, .null) else none) else
    (bif Nat.beq pc 4 then some (.invokevirtual 108, 3, 19, 0, 341, mj_u) else none))) else
  (bif Nat.blt pc 11 then (bif Nat.blt pc 8 then (bif Nat.beq pc 7 then some (.aload_n 0, 1, 0, 0, 0, mj_u) else none) else
    (bif Nat.beq pc 8 then some (.getfield 28, 3, 8, 2, 298, .null) else none)) else
   (bif Nat.blt pc 14 then (bif Nat.beq pc 11 then some (.getfield 139, 3, 3, 4, 205, .int 0) else none) else
    (bif Nat.beq pc 14 then some (.ireturn, 1, 0, 0, 0, mj_u) else none)))
def m_W_lakes : mj_M := (47, prog_1_method_19_code, 1, (Option.some Jvm.ClassFile.FieldType.int), 8, 0, 459, 457, 458, 45, 15, k_W_lakes)
/-- WatershedMap.volume()I -/
def k_W_volume : Nat → Option mj_I := fun pc =>
  bif Nat.blt pc 7 then (bif Nat.blt pc 1 then (bif Nat.beq pc 0 then some (.aload_n 0, 1, 0, 0, 0, mj_u) else none) else
   (bif Nat.blt pc 4 then (bif Nat.beq pc 1 then some (.getfield 28, 3, 8, 2, 298, .null) else none) else
    (bif Nat.beq pc 4 then some (.invokevirtual 108, 3, 19, 0, 341, mj_u) else none))) else
  (bif Nat.blt pc 11 then (bif Nat.blt pc 8 then (bif Nat.beq pc 7 then some (.aload_n 0, 1, 0, 0, 0, mj_u) else none) else
    (bif Nat.beq pc 8 then some (.getfield 28, 3, 8, 2, 298, .null) else none)) else
   (bif Nat.blt pc 14 then (bif Nat.beq pc 11 then some (.invokevirtual 148, 3, 49, 0, 464, mj_u) else none) else
    (bif Nat.beq pc 14 then some (.ireturn, 1, 0, 0, 0, mj_u) else none)))
def m_W_volume : mj_M := (48, prog_1_method_21_code, 1, (Option.some Jvm.ClassFile.FieldType.int), 8, 0, 463, 461, 462, 45, 15, k_W_volume)
/-- WatershedMap$Hollows.content()I -/
def k_Hollows_content : Nat → Option mj_I := fun pc =>
  bif Nat.blt pc 15 then (bif Nat.blt pc 4 then (bif Nat.blt pc 2 then (bif Nat.blt pc 1 then (bif Nat.beq pc 0 then some (.iconst 0, 1, 0, 0, 0, .int 0) else none) else
     (bif Nat.beq pc 1 then some (.istore_n 1, 1, 1, 0, 0, mj_u) else none)) else
    (bif Nat.blt pc 3 then (bif Nat.beq pc 2 then some (.iconst 0, 1, 0, 0, 0, .int 0) else none) else
     (bif Nat.beq pc 3 then some (.istore_n 2, 1, 2, 0, 0, mj_u) else none))) else
   (bif Nat.blt pc 6 then (bif Nat.blt pc 5 then (bif Nat.beq pc 4 then some (.iload_n 2, 1, 2, 0, 0, mj_u) else none) else
     (bif Nat.beq pc 5 then some (.aload_n 0, 1, 0, 0, 0, mj_u) else none)) else
    (bif Nat.blt pc 9 then (bif Nat.beq pc 6 then some (.getfield 29, 3, 3, 0, 199, .null) else none) else
     (bif Nat.blt pc 12 then (bif Nat.beq pc 9 then some (.getfield 43, 3, 4, 5, 104, .int 0) else none) else
      (bif Nat.beq pc 12 then some (.if_icmp .ge 17, 3, 29, 0, 0, mj_u) else none))))) else
  (bif Nat.blt pc 22 then (bif Nat.blt pc 17 then (bif Nat.blt pc 16 then (bif Nat.beq pc 15 then some (.iload_n 1, 1, 1, 0, 0, mj_u) else none) else
     (bif Nat.beq pc 16 then some (.aload_n 0, 1, 0, 0, 0, mj_u) else none)) else
    (bif Nat.blt pc 18 then (bif Nat.beq pc 17 then some (.iload_n 2, 1, 2, 0, 0, mj_u) else none) else
     (bif Nat.blt pc 21 then (bif Nat.beq pc 18 then some (.invokevirtual 89, 3, 29, 0, 381, mj_u) else none) else
      (bif Nat.beq pc 21 then some (.iadd, 1, 0, 0, 0, mj_u) else none)))) else
   (bif Nat.blt pc 26 then (bif Nat.blt pc 23 then (bif Nat.beq pc 22 then some (.istore_n 1, 1, 1, 0, 0, mj_u) else none) else
     (bif Nat.beq pc 23 then some (.iinc 2 1, 3, 2, 0, 0, .int 1) else none)) else
    (bif Nat.blt pc 29 then (bif Nat.beq pc 26 then some (.goto (-22), 3, 4, 0, 0, mj_u) else none) else
     (bif Nat.blt pc 30 then (bif Nat.beq pc 29 then some (.iload_n 1, 1, 1, 0, 0, mj_u) else none) else
      (bif Nat.beq pc 30 then some (.ireturn, 1, 0, 0, 0, mj_u) else none)))))
def m_Hollows_content : mj_M := (49, prog_5_method_11_code, 3, (Option.some Jvm.ClassFile.FieldType.int), 3, 0, 467, 465, 466, 48, 31, k_Hollows_content)
/-- WatershedMap.steepness()D -/
def k_W_steepness : Nat → Option mj_I := fun pc =>
  bif Nat.blt pc 4 then (bif Nat.blt pc 1 then (bif Nat.beq pc 0 then some (.aload_n 0, 1, 0, 0, 0, mj_u) else none) else
   (bif Nat.beq pc 1 then some (.getfield 10, 3, 8, 0, 296, .null) else none)) else
  (bif Nat.blt pc 7 then (bif Nat.beq pc 4 then some (.invokevirtual 179, 3, 51, 0, 472, mj_u) else none) else
   (bif Nat.beq pc 7 then some (.dreturn, 1, 0, 0, 0, mj_u) else none))
def m_W_steepness : mj_M := (50, prog_1_method_27_code, 1, (Option.some Jvm.ClassFile.FieldType.double), 8, 0, 471, 469, 470, 45, 8, k_W_steepness)
/-- WatershedMap$Land.meanSteepness()D -/
def k_Land_meanSteepness : Nat → Option mj_I := fun pc =>
  bif Nat.blt pc 20 then (bif Nat.blt pc 9 then (bif Nat.blt pc 3 then (bif Nat.blt pc 1 then (bif Nat.beq pc 0 then some (.iconst 0, 1, 0, 0, 0, .int 0) else none) else
     (bif Nat.blt pc 2 then (bif Nat.beq pc 1 then some (.istore_n 1, 1, 1, 0, 0, mj_u) else none) else
      (bif Nat.beq pc 2 then some (.iconst 0, 1, 0, 0, 0, .int 0) else none))) else
    (bif Nat.blt pc 5 then (bif Nat.blt pc 4 then (bif Nat.beq pc 3 then some (.istore_n 2, 1, 2, 0, 0, mj_u) else none) else
      (bif Nat.beq pc 4 then some (.iload_n 2, 1, 2, 0, 0, mj_u) else none)) else
     (bif Nat.blt pc 6 then (bif Nat.beq pc 5 then some (.aload_n 0, 1, 0, 0, 0, mj_u) else none) else
      (bif Nat.beq pc 6 then some (.getfield 28, 3, 4, 5, 103, .int 0) else none)))) else
   (bif Nat.blt pc 14 then (bif Nat.blt pc 12 then (bif Nat.beq pc 9 then some (.if_icmp .ge 17, 3, 26, 0, 0, mj_u) else none) else
     (bif Nat.blt pc 13 then (bif Nat.beq pc 12 then some (.iload_n 1, 1, 1, 0, 0, mj_u) else none) else
      (bif Nat.beq pc 13 then some (.aload_n 0, 1, 0, 0, 0, mj_u) else none))) else
    (bif Nat.blt pc 18 then (bif Nat.blt pc 15 then (bif Nat.beq pc 14 then some (.iload_n 2, 1, 2, 0, 0, mj_u) else none) else
      (bif Nat.beq pc 15 then some (.invokevirtual 104, 3, 52, 0, 476, mj_u) else none)) else
     (bif Nat.blt pc 19 then (bif Nat.beq pc 18 then some (.iadd, 1, 0, 0, 0, mj_u) else none) else
      (bif Nat.beq pc 19 then some (.istore_n 1, 1, 1, 0, 0, mj_u) else none))))) else
  (bif Nat.blt pc 35 then (bif Nat.blt pc 27 then (bif Nat.blt pc 23 then (bif Nat.beq pc 20 then some (.iinc 2 1, 3, 2, 0, 0, .int 1) else none) else
     (bif Nat.blt pc 26 then (bif Nat.beq pc 23 then some (.goto (-19), 3, 4, 0, 0, mj_u) else none) else
      (bif Nat.beq pc 26 then some (.aload_n 0, 1, 0, 0, 0, mj_u) else none))) else
    (bif Nat.blt pc 31 then (bif Nat.blt pc 30 then (bif Nat.beq pc 27 then some (.getfield 28, 3, 4, 5, 103, .int 0) else none) else
      (bif Nat.beq pc 30 then some (.iconst 1, 1, 0, 0, 0, .int 1) else none)) else
     (bif Nat.blt pc 34 then (bif Nat.beq pc 31 then some (.if_icmp .ge 7, 3, 38, 0, 0, mj_u) else none) else
      (bif Nat.beq pc 34 then some (.dconst 0, 1, 0, 0, 0, .double FP.dconst0) else none)))) else
   (bif Nat.blt pc 41 then (bif Nat.blt pc 39 then (bif Nat.blt pc 38 then (bif Nat.beq pc 35 then some (.goto 11, 3, 46, 0, 0, mj_u) else none) else
      (bif Nat.beq pc 38 then some (.iload_n 1, 1, 1, 0, 0, mj_u) else none)) else
     (bif Nat.blt pc 40 then (bif Nat.beq pc 39 then some (.i2d, 1, 0, 0, 0, mj_u) else none) else
      (bif Nat.beq pc 40 then some (.aload_n 0, 1, 0, 0, 0, mj_u) else none))) else
    (bif Nat.blt pc 45 then (bif Nat.blt pc 44 then (bif Nat.beq pc 41 then some (.getfield 28, 3, 4, 5, 103, .int 0) else none) else
      (bif Nat.beq pc 44 then some (.i2d, 1, 0, 0, 0, mj_u) else none)) else
     (bif Nat.blt pc 46 then (bif Nat.beq pc 45 then some (.ddiv, 1, 0, 0, 0, mj_u) else none) else
      (bif Nat.beq pc 46 then some (.dreturn, 1, 0, 0, 0, mj_u) else none)))))
def m_Land_meanSteepness : mj_M := (51, prog_6_method_23_code, 3, (Option.some Jvm.ClassFile.FieldType.double), 4, 0, 475, 473, 474, 46, 47, k_Land_meanSteepness)
/-- WatershedMap$Land.steepnessOf(I)I -/
def k_Land_steepnessOf : Nat → Option mj_I := fun pc =>
  bif Nat.blt pc 18 then (bif Nat.blt pc 7 then (bif Nat.blt pc 3 then (bif Nat.blt pc 1 then (bif Nat.beq pc 0 then some (.iconst 0, 1, 0, 0, 0, .int 0) else none) else
     (bif Nat.blt pc 2 then (bif Nat.beq pc 1 then some (.istore_n 2, 1, 2, 0, 0, mj_u) else none) else
      (bif Nat.beq pc 2 then some (.iconst 0, 1, 0, 0, 0, .int 0) else none))) else
    (bif Nat.blt pc 4 then (bif Nat.beq pc 3 then some (.istore_n 3, 1, 3, 0, 0, mj_u) else none) else
     (bif Nat.blt pc 5 then (bif Nat.beq pc 4 then some (.iload_n 3, 1, 3, 0, 0, mj_u) else none) else
      (bif Nat.beq pc 5 then some (.bipush 8, 2, 0, 0, 0, .int 8) else none)))) else
   (bif Nat.blt pc 12 then (bif Nat.blt pc 10 then (bif Nat.beq pc 7 then some (.if_icmp .ge 34, 3, 41, 0, 0, mj_u) else none) else
     (bif Nat.blt pc 11 then (bif Nat.beq pc 10 then some (.aload_n 0, 1, 0, 0, 0, mj_u) else none) else
      (bif Nat.beq pc 11 then some (.iload_n 1, 1, 1, 0, 0, mj_u) else none))) else
    (bif Nat.blt pc 13 then (bif Nat.beq pc 12 then some (.iload_n 3, 1, 3, 0, 0, mj_u) else none) else
     (bif Nat.blt pc 16 then (bif Nat.beq pc 13 then some (.invokevirtual 55, 3, 16, 0, 329, mj_u) else none) else
      (bif Nat.beq pc 16 then some (.istore 4, 2, 4, 0, 0, mj_u) else none))))) else
  (bif Nat.blt pc 28 then (bif Nat.blt pc 24 then (bif Nat.blt pc 20 then (bif Nat.beq pc 18 then some (.iload 4, 2, 4, 0, 0, mj_u) else none) else
     (bif Nat.blt pc 23 then (bif Nat.beq pc 20 then some (.ifCond .lt 15, 3, 35, 0, 0, mj_u) else none) else
      (bif Nat.beq pc 23 then some (.iload_n 2, 1, 2, 0, 0, mj_u) else none))) else
    (bif Nat.blt pc 25 then (bif Nat.beq pc 24 then some (.aload_n 0, 1, 0, 0, 0, mj_u) else none) else
     (bif Nat.blt pc 26 then (bif Nat.beq pc 25 then some (.iload_n 1, 1, 1, 0, 0, mj_u) else none) else
      (bif Nat.beq pc 26 then some (.iload 4, 2, 4, 0, 0, mj_u) else none)))) else
   (bif Nat.blt pc 35 then (bif Nat.blt pc 31 then (bif Nat.beq pc 28 then some (.invokevirtual 101, 3, 53, 0, 480, mj_u) else none) else
     (bif Nat.blt pc 34 then (bif Nat.beq pc 31 then some (.invokestatic 77, 3, 26, 0, 487, mj_u) else none) else
      (bif Nat.beq pc 34 then some (.istore_n 2, 1, 2, 0, 0, mj_u) else none))) else
    (bif Nat.blt pc 41 then (bif Nat.blt pc 38 then (bif Nat.beq pc 35 then some (.iinc 3 1, 3, 3, 0, 0, .int 1) else none) else
      (bif Nat.beq pc 38 then some (.goto (-34), 3, 4, 0, 0, mj_u) else none)) else
     (bif Nat.blt pc 42 then (bif Nat.beq pc 41 then some (.iload_n 2, 1, 2, 0, 0, mj_u) else none) else
      (bif Nat.beq pc 42 then some (.ireturn, 1, 0, 0, 0, mj_u) else none)))))
def m_Land_steepnessOf : mj_M := (52, prog_6_method_24_code, 5, (Option.some Jvm.ClassFile.FieldType.int), 4, 1, 479, 478, 11, 46, 43, k_Land_steepnessOf)
/-- WatershedMap$Land.difference(II)I -/
def k_Land_difference : Nat → Option mj_I := fun pc =>
  bif Nat.blt pc 7 then (bif Nat.blt pc 4 then (bif Nat.blt pc 1 then (bif Nat.beq pc 0 then some (.aload_n 0, 1, 0, 0, 0, mj_u) else none) else
    (bif Nat.beq pc 1 then some (.getfield 9, 3, 4, 0, 87, .null) else none)) else
   (bif Nat.blt pc 5 then (bif Nat.beq pc 4 then some (.iload_n 1, 1, 1, 0, 0, mj_u) else none) else
    (bif Nat.blt pc 6 then (bif Nat.beq pc 5 then some (.iaload, 1, 0, 0, 0, mj_u) else none) else
     (bif Nat.beq pc 6 then some (.aload_n 0, 1, 0, 0, 0, mj_u) else none)))) else
  (bif Nat.blt pc 12 then (bif Nat.blt pc 10 then (bif Nat.beq pc 7 then some (.getfield 9, 3, 4, 0, 87, .null) else none) else
    (bif Nat.blt pc 11 then (bif Nat.beq pc 10 then some (.iload_n 2, 1, 2, 0, 0, mj_u) else none) else
     (bif Nat.beq pc 11 then some (.iaload, 1, 0, 0, 0, mj_u) else none))) else
   (bif Nat.blt pc 13 then (bif Nat.beq pc 12 then some (.isub, 1, 0, 0, 0, mj_u) else none) else
    (bif Nat.blt pc 16 then (bif Nat.beq pc 13 then some (.invokestatic 58, 3, 54, 0, 484, mj_u) else none) else
     (bif Nat.beq pc 16 then some (.ireturn, 1, 0, 0, 0, mj_u) else none))))
def m_Land_difference : mj_M := (53, prog_6_method_10_code, 3, (Option.some Jvm.ClassFile.FieldType.int), 4, 2, 483, 481, 482, 46, 17, k_Land_difference)
/-- java/lang/Math.abs(I)I static -/
def k_Math_abs : Nat → Option mj_I := fun pc =>
  bif Nat.blt pc 5 then (bif Nat.blt pc 1 then (bif Nat.beq pc 0 then some (.iload_n 0, 1, 0, 0, 0, mj_u) else none) else
   (bif Nat.blt pc 4 then (bif Nat.beq pc 1 then some (.ifCond .ge 8, 3, 9, 0, 0, mj_u) else none) else
    (bif Nat.beq pc 4 then some (.iload_n 0, 1, 0, 0, 0, mj_u) else none))) else
  (bif Nat.blt pc 9 then (bif Nat.blt pc 6 then (bif Nat.beq pc 5 then some (.ineg, 1, 0, 0, 0, mj_u) else none) else
    (bif Nat.beq pc 6 then some (.goto 4, 3, 10, 0, 0, mj_u) else none)) else
   (bif Nat.blt pc 10 then (bif Nat.beq pc 9 then some (.iload_n 0, 1, 0, 0, 0, mj_u) else none) else
    (bif Nat.beq pc 10 then some (.ireturn, 1, 0, 0, 0, mj_u) else none)))
def m_Math_abs : mj_M := (54, prog_22_method_59_code, 1, (Option.some Jvm.ClassFile.FieldType.int), 12, 1, 486, 485, 0, 62, 11, k_Math_abs)
/-- WatershedMap.digest()J -/
def k_W_digest : Nat → Option mj_I := fun pc =>
  bif Nat.blt pc 45 then (bif Nat.blt pc 25 then (bif Nat.blt pc 11 then (bif Nat.blt pc 4 then (bif Nat.blt pc 1 then (bif Nat.beq pc 0 then some (.aload_n 0, 1, 0, 0, 0, mj_u) else none) else
      (bif Nat.beq pc 1 then some (.getfield 21, 3, 8, 1, 297, .null) else none)) else
     (bif Nat.blt pc 5 then (bif Nat.beq pc 4 then some (.aload_n 0, 1, 0, 0, 0, mj_u) else none) else
      (bif Nat.blt pc 8 then (bif Nat.beq pc 5 then some (.getfield 57, 3, 8, 7, 303, .int 0) else none) else
       (bif Nat.beq pc 8 then some (.invokevirtual 100, 3, 35, 0, 405, mj_u) else none)))) else
    (bif Nat.blt pc 18 then (bif Nat.blt pc 12 then (bif Nat.beq pc 11 then some (.aload_n 0, 1, 0, 0, 0, mj_u) else none) else
      (bif Nat.blt pc 15 then (bif Nat.beq pc 12 then some (.getfield 28, 3, 8, 2, 298, .null) else none) else
       (bif Nat.beq pc 15 then some (.invokevirtual 108, 3, 19, 0, 341, mj_u) else none))) else
     (bif Nat.blt pc 19 then (bif Nat.beq pc 18 then some (.aload_n 0, 1, 0, 0, 0, mj_u) else none) else
      (bif Nat.blt pc 22 then (bif Nat.beq pc 19 then some (.ldc2_w 195, 3, 0, 0, 492, .long 58078) else none) else
       (bif Nat.beq pc 22 then some (.invokevirtual 197, 3, 56, 0, 493, mj_u) else none))))) else
   (bif Nat.blt pc 33 then (bif Nat.blt pc 28 then (bif Nat.blt pc 26 then (bif Nat.beq pc 25 then some (.lstore_n 1, 1, 1, 0, 0, mj_u) else none) else
      (bif Nat.blt pc 27 then (bif Nat.beq pc 26 then some (.iconst 0, 1, 0, 0, 0, .int 0) else none) else
       (bif Nat.beq pc 27 then some (.istore_n 3, 1, 3, 0, 0, mj_u) else none))) else
     (bif Nat.blt pc 29 then (bif Nat.beq pc 28 then some (.iload_n 3, 1, 3, 0, 0, mj_u) else none) else
      (bif Nat.blt pc 32 then (bif Nat.beq pc 29 then some (.getstatic 201, 3, 2, 0, 517, mj_u) else none) else
       (bif Nat.beq pc 32 then some (.arraylength, 1, 0, 0, 0, mj_u) else none)))) else
    (bif Nat.blt pc 40 then (bif Nat.blt pc 36 then (bif Nat.beq pc 33 then some (.if_icmp .ge 53, 3, 86, 0, 0, mj_u) else none) else
      (bif Nat.blt pc 37 then (bif Nat.beq pc 36 then some (.aload_n 0, 1, 0, 0, 0, mj_u) else none) else
       (bif Nat.beq pc 37 then some (.getfield 35, 3, 8, 3, 299, .null) else none))) else
     (bif Nat.blt pc 43 then (bif Nat.beq pc 40 then some (.getstatic 201, 3, 2, 0, 517, mj_u) else none) else
      (bif Nat.blt pc 44 then (bif Nat.beq pc 43 then some (.iload_n 3, 1, 3, 0, 0, mj_u) else none) else
       (bif Nat.beq pc 44 then some (.iaload, 1, 0, 0, 0, mj_u) else none)))))) else
  (bif Nat.blt pc 68 then (bif Nat.blt pc 57 then (bif Nat.blt pc 51 then (bif Nat.blt pc 48 then (bif Nat.beq pc 45 then some (.invokevirtual 151, 3, 62, 0, 519, mj_u) else none) else
      (bif Nat.blt pc 49 then (bif Nat.beq pc 48 then some (.iconst 0, 1, 0, 0, 0, .int 0) else none) else
       (bif Nat.beq pc 49 then some (.istore 4, 2, 4, 0, 0, mj_u) else none))) else
     (bif Nat.blt pc 53 then (bif Nat.beq pc 51 then some (.iload 4, 2, 4, 0, 0, mj_u) else none) else
      (bif Nat.blt pc 54 then (bif Nat.beq pc 53 then some (.iconst 2, 1, 0, 0, 0, .int 2) else none) else
       (bif Nat.beq pc 54 then some (.if_icmp .gt 26, 3, 80, 0, 0, mj_u) else none)))) else
    (bif Nat.blt pc 62 then (bif Nat.blt pc 58 then (bif Nat.beq pc 57 then some (.lload_n 1, 1, 1, 0, 0, mj_u) else none) else
      (bif Nat.blt pc 61 then (bif Nat.beq pc 58 then some (.ldc2_w 204, 3, 0, 0, 497, .long 31) else none) else
       (bif Nat.beq pc 61 then some (.lmul, 1, 0, 0, 0, mj_u) else none))) else
     (bif Nat.blt pc 63 then (bif Nat.beq pc 62 then some (.aload_n 0, 1, 0, 0, 0, mj_u) else none) else
      (bif Nat.blt pc 66 then (bif Nat.beq pc 63 then some (.getfield 35, 3, 8, 3, 299, .null) else none) else
       (bif Nat.beq pc 66 then some (.iload 4, 2, 4, 0, 0, mj_u) else none))))) else
   (bif Nat.blt pc 80 then (bif Nat.blt pc 73 then (bif Nat.blt pc 71 then (bif Nat.beq pc 68 then some (.invokevirtual 154, 3, 69, 0, 549, mj_u) else none) else
      (bif Nat.blt pc 72 then (bif Nat.beq pc 71 then some (.i2l, 1, 0, 0, 0, mj_u) else none) else
       (bif Nat.beq pc 72 then some (.ladd, 1, 0, 0, 0, mj_u) else none))) else
     (bif Nat.blt pc 74 then (bif Nat.beq pc 73 then some (.lstore_n 1, 1, 1, 0, 0, mj_u) else none) else
      (bif Nat.blt pc 77 then (bif Nat.beq pc 74 then some (.iinc 4 1, 3, 4, 0, 0, .int 1) else none) else
       (bif Nat.beq pc 77 then some (.goto (-26), 3, 51, 0, 0, mj_u) else none)))) else
    (bif Nat.blt pc 87 then (bif Nat.blt pc 83 then (bif Nat.beq pc 80 then some (.iinc 3 1, 3, 3, 0, 0, .int 1) else none) else
      (bif Nat.blt pc 86 then (bif Nat.beq pc 83 then some (.goto (-55), 3, 28, 0, 0, mj_u) else none) else
       (bif Nat.beq pc 86 then some (.aload_n 0, 1, 0, 0, 0, mj_u) else none))) else
     (bif Nat.blt pc 88 then (bif Nat.beq pc 87 then some (.lload_n 1, 1, 1, 0, 0, mj_u) else none) else
      (bif Nat.blt pc 91 then (bif Nat.beq pc 88 then some (.invokevirtual 206, 3, 70, 0, 553, mj_u) else none) else
       (bif Nat.beq pc 91 then some (.lreturn, 1, 0, 0, 0, mj_u) else none))))))
def m_W_digest : mj_M := (55, prog_1_method_31_code, 5, (Option.some Jvm.ClassFile.FieldType.long), 8, 0, 491, 489, 490, 45, 92, k_W_digest)
/-- WatershedMap.digestOfMap(J)J -/
def k_W_digestOfMap : Nat → Option mj_I := fun pc =>
  bif Nat.blt pc 77 then (bif Nat.blt pc 38 then (bif Nat.blt pc 16 then (bif Nat.blt pc 7 then (bif Nat.blt pc 2 then (bif Nat.blt pc 1 then (bif Nat.beq pc 0 then some (.lload_n 1, 1, 1, 0, 0, mj_u) else none) else
       (bif Nat.beq pc 1 then some (.lstore_n 3, 1, 3, 0, 0, mj_u) else none)) else
      (bif Nat.blt pc 3 then (bif Nat.beq pc 2 then some (.iconst 0, 1, 0, 0, 0, .int 0) else none) else
       (bif Nat.blt pc 5 then (bif Nat.beq pc 3 then some (.istore 5, 2, 5, 0, 0, mj_u) else none) else
        (bif Nat.beq pc 5 then some (.iload 5, 2, 5, 0, 0, mj_u) else none)))) else
     (bif Nat.blt pc 11 then (bif Nat.blt pc 8 then (bif Nat.beq pc 7 then some (.iconst 4, 1, 0, 0, 0, .int 4) else none) else
       (bif Nat.beq pc 8 then some (.if_icmp .gt 26, 3, 34, 0, 0, mj_u) else none)) else
      (bif Nat.blt pc 12 then (bif Nat.beq pc 11 then some (.lload_n 3, 1, 3, 0, 0, mj_u) else none) else
       (bif Nat.blt pc 15 then (bif Nat.beq pc 12 then some (.ldc2_w 204, 3, 0, 0, 497, .long 31) else none) else
        (bif Nat.beq pc 15 then some (.lmul, 1, 0, 0, 0, mj_u) else none))))) else
    (bif Nat.blt pc 26 then (bif Nat.blt pc 20 then (bif Nat.blt pc 17 then (bif Nat.beq pc 16 then some (.aload_n 0, 1, 0, 0, 0, mj_u) else none) else
       (bif Nat.beq pc 17 then some (.getfield 10, 3, 8, 0, 296, .null) else none)) else
      (bif Nat.blt pc 22 then (bif Nat.beq pc 20 then some (.iload 5, 2, 5, 0, 0, mj_u) else none) else
       (bif Nat.blt pc 25 then (bif Nat.beq pc 22 then some (.invokevirtual 118, 3, 57, 0, 498, mj_u) else none) else
        (bif Nat.beq pc 25 then some (.i2l, 1, 0, 0, 0, mj_u) else none)))) else
     (bif Nat.blt pc 31 then (bif Nat.blt pc 27 then (bif Nat.beq pc 26 then some (.ladd, 1, 0, 0, 0, mj_u) else none) else
       (bif Nat.blt pc 28 then (bif Nat.beq pc 27 then some (.lstore_n 3, 1, 3, 0, 0, mj_u) else none) else
        (bif Nat.beq pc 28 then some (.iinc 5 1, 3, 5, 0, 0, .int 1) else none))) else
      (bif Nat.blt pc 34 then (bif Nat.beq pc 31 then some (.goto (-26), 3, 5, 0, 0, mj_u) else none) else
       (bif Nat.blt pc 35 then (bif Nat.beq pc 34 then some (.lload_n 3, 1, 3, 0, 0, mj_u) else none) else
        (bif Nat.beq pc 35 then some (.ldc2_w 204, 3, 0, 0, 497, .long 31) else none)))))) else
   (bif Nat.blt pc 59 then (bif Nat.blt pc 48 then (bif Nat.blt pc 40 then (bif Nat.blt pc 39 then (bif Nat.beq pc 38 then some (.lmul, 1, 0, 0, 0, mj_u) else none) else
       (bif Nat.beq pc 39 then some (.aload_n 0, 1, 0, 0, 0, mj_u) else none)) else
      (bif Nat.blt pc 43 then (bif Nat.beq pc 40 then some (.getfield 21, 3, 8, 1, 297, .null) else none) else
       (bif Nat.blt pc 45 then (bif Nat.beq pc 43 then some (.bipush 8, 2, 0, 0, 0, .int 8) else none) else
        (bif Nat.beq pc 45 then some (.invokevirtual 127, 3, 42, 0, 436, mj_u) else none)))) else
     (bif Nat.blt pc 51 then (bif Nat.blt pc 49 then (bif Nat.beq pc 48 then some (.i2l, 1, 0, 0, 0, mj_u) else none) else
       (bif Nat.blt pc 50 then (bif Nat.beq pc 49 then some (.ladd, 1, 0, 0, 0, mj_u) else none) else
        (bif Nat.beq pc 50 then some (.aload_n 0, 1, 0, 0, 0, mj_u) else none))) else
      (bif Nat.blt pc 54 then (bif Nat.beq pc 51 then some (.getfield 21, 3, 8, 1, 297, .null) else none) else
       (bif Nat.blt pc 56 then (bif Nat.beq pc 54 then some (.bipush 9, 2, 0, 0, 0, .int 9) else none) else
        (bif Nat.beq pc 56 then some (.invokevirtual 127, 3, 42, 0, 436, mj_u) else none))))) else
    (bif Nat.blt pc 66 then (bif Nat.blt pc 61 then (bif Nat.blt pc 60 then (bif Nat.beq pc 59 then some (.i2l, 1, 0, 0, 0, mj_u) else none) else
       (bif Nat.beq pc 60 then some (.ladd, 1, 0, 0, 0, mj_u) else none)) else
      (bif Nat.blt pc 62 then (bif Nat.beq pc 61 then some (.lstore_n 3, 1, 3, 0, 0, mj_u) else none) else
       (bif Nat.blt pc 63 then (bif Nat.beq pc 62 then some (.lload_n 3, 1, 3, 0, 0, mj_u) else none) else
        (bif Nat.beq pc 63 then some (.ldc2_w 204, 3, 0, 0, 497, .long 31) else none)))) else
     (bif Nat.blt pc 71 then (bif Nat.blt pc 67 then (bif Nat.beq pc 66 then some (.lmul, 1, 0, 0, 0, mj_u) else none) else
       (bif Nat.blt pc 68 then (bif Nat.beq pc 67 then some (.aload_n 0, 1, 0, 0, 0, mj_u) else none) else
        (bif Nat.beq pc 68 then some (.getfield 21, 3, 8, 1, 297, .null) else none))) else
      (bif Nat.blt pc 73 then (bif Nat.beq pc 71 then some (.bipush 9, 2, 0, 0, 0, .int 9) else none) else
       (bif Nat.blt pc 76 then (bif Nat.beq pc 73 then some (.invokevirtual 127, 3, 42, 0, 436, mj_u) else none) else
        (bif Nat.beq pc 76 then some (.i2l, 1, 0, 0, 0, mj_u) else none))))))) else
  (bif Nat.blt pc 117 then (bif Nat.blt pc 98 then (bif Nat.blt pc 84 then (bif Nat.blt pc 79 then (bif Nat.blt pc 78 then (bif Nat.beq pc 77 then some (.ladd, 1, 0, 0, 0, mj_u) else none) else
       (bif Nat.beq pc 78 then some (.lstore_n 3, 1, 3, 0, 0, mj_u) else none)) else
      (bif Nat.blt pc 80 then (bif Nat.beq pc 79 then some (.lload_n 3, 1, 3, 0, 0, mj_u) else none) else
       (bif Nat.blt pc 83 then (bif Nat.beq pc 80 then some (.ldc2_w 204, 3, 0, 0, 497, .long 31) else none) else
        (bif Nat.beq pc 83 then some (.lmul, 1, 0, 0, 0, mj_u) else none)))) else
     (bif Nat.blt pc 89 then (bif Nat.blt pc 85 then (bif Nat.beq pc 84 then some (.aload_n 0, 1, 0, 0, 0, mj_u) else none) else
       (bif Nat.blt pc 88 then (bif Nat.beq pc 85 then some (.getfield 21, 3, 8, 1, 297, .null) else none) else
        (bif Nat.beq pc 88 then some (.aload_n 0, 1, 0, 0, 0, mj_u) else none))) else
      (bif Nat.blt pc 92 then (bif Nat.beq pc 89 then some (.getfield 21, 3, 8, 1, 297, .null) else none) else
       (bif Nat.blt pc 95 then (bif Nat.beq pc 92 then some (.getfield 130, 3, 6, 6, 137, .null) else none) else
        (bif Nat.beq pc 95 then some (.invokevirtual 133, 3, 45, 0, 448, mj_u) else none))))) else
    (bif Nat.blt pc 105 then (bif Nat.blt pc 100 then (bif Nat.blt pc 99 then (bif Nat.beq pc 98 then some (.i2l, 1, 0, 0, 0, mj_u) else none) else
       (bif Nat.beq pc 99 then some (.ladd, 1, 0, 0, 0, mj_u) else none)) else
      (bif Nat.blt pc 101 then (bif Nat.beq pc 100 then some (.lstore_n 3, 1, 3, 0, 0, mj_u) else none) else
       (bif Nat.blt pc 102 then (bif Nat.beq pc 101 then some (.lload_n 3, 1, 3, 0, 0, mj_u) else none) else
        (bif Nat.beq pc 102 then some (.ldc2_w 204, 3, 0, 0, 497, .long 31) else none)))) else
     (bif Nat.blt pc 110 then (bif Nat.blt pc 106 then (bif Nat.beq pc 105 then some (.lmul, 1, 0, 0, 0, mj_u) else none) else
       (bif Nat.blt pc 107 then (bif Nat.beq pc 106 then some (.aload_n 0, 1, 0, 0, 0, mj_u) else none) else
        (bif Nat.beq pc 107 then some (.getfield 21, 3, 8, 1, 297, .null) else none))) else
      (bif Nat.blt pc 111 then (bif Nat.beq pc 110 then some (.aload_n 0, 1, 0, 0, 0, mj_u) else none) else
       (bif Nat.blt pc 114 then (bif Nat.beq pc 111 then some (.getfield 21, 3, 8, 1, 297, .null) else none) else
        (bif Nat.beq pc 114 then some (.getfield 136, 3, 6, 7, 139, .null) else none)))))) else
   (bif Nat.blt pc 136 then (bif Nat.blt pc 124 then (bif Nat.blt pc 121 then (bif Nat.blt pc 120 then (bif Nat.beq pc 117 then some (.invokevirtual 133, 3, 45, 0, 448, mj_u) else none) else
       (bif Nat.beq pc 120 then some (.i2l, 1, 0, 0, 0, mj_u) else none)) else
      (bif Nat.blt pc 122 then (bif Nat.beq pc 121 then some (.ladd, 1, 0, 0, 0, mj_u) else none) else
       (bif Nat.blt pc 123 then (bif Nat.beq pc 122 then some (.lstore_n 3, 1, 3, 0, 0, mj_u) else none) else
        (bif Nat.beq pc 123 then some (.lload_n 3, 1, 3, 0, 0, mj_u) else none)))) else
     (bif Nat.blt pc 129 then (bif Nat.blt pc 127 then (bif Nat.beq pc 124 then some (.ldc2_w 204, 3, 0, 0, 497, .long 31) else none) else
       (bif Nat.blt pc 128 then (bif Nat.beq pc 127 then some (.lmul, 1, 0, 0, 0, mj_u) else none) else
        (bif Nat.beq pc 128 then some (.aload_n 0, 1, 0, 0, 0, mj_u) else none))) else
      (bif Nat.blt pc 132 then (bif Nat.beq pc 129 then some (.getfield 28, 3, 8, 2, 298, .null) else none) else
       (bif Nat.blt pc 135 then (bif Nat.beq pc 132 then some (.getfield 139, 3, 3, 4, 205, .int 0) else none) else
        (bif Nat.beq pc 135 then some (.i2l, 1, 0, 0, 0, mj_u) else none))))) else
    (bif Nat.blt pc 143 then (bif Nat.blt pc 138 then (bif Nat.blt pc 137 then (bif Nat.beq pc 136 then some (.ladd, 1, 0, 0, 0, mj_u) else none) else
       (bif Nat.beq pc 137 then some (.lstore_n 3, 1, 3, 0, 0, mj_u) else none)) else
      (bif Nat.blt pc 139 then (bif Nat.beq pc 138 then some (.lload_n 3, 1, 3, 0, 0, mj_u) else none) else
       (bif Nat.blt pc 142 then (bif Nat.beq pc 139 then some (.ldc2_w 204, 3, 0, 0, 497, .long 31) else none) else
        (bif Nat.beq pc 142 then some (.lmul, 1, 0, 0, 0, mj_u) else none)))) else
     (bif Nat.blt pc 150 then (bif Nat.blt pc 144 then (bif Nat.beq pc 143 then some (.aload_n 0, 1, 0, 0, 0, mj_u) else none) else
       (bif Nat.blt pc 147 then (bif Nat.beq pc 144 then some (.getfield 28, 3, 8, 2, 298, .null) else none) else
        (bif Nat.beq pc 147 then some (.invokevirtual 148, 3, 49, 0, 464, mj_u) else none))) else
      (bif Nat.blt pc 151 then (bif Nat.beq pc 150 then some (.i2l, 1, 0, 0, 0, mj_u) else none) else
       (bif Nat.blt pc 152 then (bif Nat.beq pc 151 then some (.ladd, 1, 0, 0, 0, mj_u) else none) else
        (bif Nat.beq pc 152 then some (.lreturn, 1, 0, 0, 0, mj_u) else none)))))))
def m_W_digestOfMap : mj_M := (56, prog_1_method_32_code, 6, (Option.some Jvm.ClassFile.FieldType.long), 8, 1, 496, 495, 12, 45, 153, k_W_digestOfMap)
/-- WatershedMap$Land.told(I)I -/
def k_Land_told : Nat → Option mj_I := fun pc =>
  bif Nat.blt pc 42 then (bif Nat.blt pc 36 then (bif Nat.blt pc 32 then (bif Nat.blt pc 1 then (bif Nat.beq pc 0 then some (.iload_n 1, 1, 1, 0, 0, mj_u) else none) else
     (bif Nat.beq pc 1 then some (.tableswitch 51 0 3 #[31, 36, 41, 46], 31, 52, 0, 0, mj_u) else none)) else
    (bif Nat.blt pc 33 then (bif Nat.beq pc 32 then some (.aload_n 0, 1, 0, 0, 0, mj_u) else none) else
     (bif Nat.beq pc 33 then some (.getfield 21, 3, 4, 3, 95, .int 0) else none))) else
   (bif Nat.blt pc 38 then (bif Nat.blt pc 37 then (bif Nat.beq pc 36 then some (.ireturn, 1, 0, 0, 0, mj_u) else none) else
     (bif Nat.beq pc 37 then some (.aload_n 0, 1, 0, 0, 0, mj_u) else none)) else
    (bif Nat.blt pc 41 then (bif Nat.beq pc 38 then some (.getfield 25, 3, 4, 4, 99, .int 0) else none) else
     (bif Nat.beq pc 41 then some (.ireturn, 1, 0, 0, 0, mj_u) else none)))) else
  (bif Nat.blt pc 48 then (bif Nat.blt pc 46 then (bif Nat.blt pc 43 then (bif Nat.beq pc 42 then some (.aload_n 0, 1, 0, 0, 0, mj_u) else none) else
     (bif Nat.beq pc 43 then some (.invokevirtual 64, 3, 58, 0, 502, mj_u) else none)) else
    (bif Nat.blt pc 47 then (bif Nat.beq pc 46 then some (.ireturn, 1, 0, 0, 0, mj_u) else none) else
     (bif Nat.beq pc 47 then some (.aload_n 0, 1, 0, 0, 0, mj_u) else none))) else
   (bif Nat.blt pc 52 then (bif Nat.blt pc 51 then (bif Nat.beq pc 48 then some (.invokevirtual 68, 3, 60, 0, 509, mj_u) else none) else
     (bif Nat.beq pc 51 then some (.ireturn, 1, 0, 0, 0, mj_u) else none)) else
    (bif Nat.blt pc 53 then (bif Nat.beq pc 52 then some (.aload_n 0, 1, 0, 0, 0, mj_u) else none) else
     (bif Nat.blt pc 56 then (bif Nat.beq pc 53 then some (.invokevirtual 71, 3, 61, 0, 513, mj_u) else none) else
      (bif Nat.beq pc 56 then some (.ireturn, 1, 0, 0, 0, mj_u) else none)))))
def m_Land_told : mj_M := (57, prog_6_method_11_code, 2, (Option.some Jvm.ClassFile.FieldType.int), 4, 1, 501, 499, 500, 46, 57, k_Land_told)
/-- WatershedMap$Land.lowest()I -/
def k_Land_lowest : Nat → Option mj_I := fun pc =>
  bif Nat.blt pc 15 then (bif Nat.blt pc 6 then (bif Nat.blt pc 4 then (bif Nat.blt pc 3 then (bif Nat.beq pc 0 then some (.sipush 999, 3, 0, 0, 0, .int 999) else none) else
     (bif Nat.beq pc 3 then some (.istore_n 1, 1, 1, 0, 0, mj_u) else none)) else
    (bif Nat.blt pc 5 then (bif Nat.beq pc 4 then some (.iconst 0, 1, 0, 0, 0, .int 0) else none) else
     (bif Nat.beq pc 5 then some (.istore_n 2, 1, 2, 0, 0, mj_u) else none))) else
   (bif Nat.blt pc 8 then (bif Nat.blt pc 7 then (bif Nat.beq pc 6 then some (.iload_n 2, 1, 2, 0, 0, mj_u) else none) else
     (bif Nat.beq pc 7 then some (.aload_n 0, 1, 0, 0, 0, mj_u) else none)) else
    (bif Nat.blt pc 11 then (bif Nat.beq pc 8 then some (.getfield 28, 3, 4, 5, 103, .int 0) else none) else
     (bif Nat.blt pc 14 then (bif Nat.beq pc 11 then some (.if_icmp .ge 20, 3, 31, 0, 0, mj_u) else none) else
      (bif Nat.beq pc 14 then some (.iload_n 1, 1, 1, 0, 0, mj_u) else none))))) else
  (bif Nat.blt pc 24 then (bif Nat.blt pc 19 then (bif Nat.blt pc 16 then (bif Nat.beq pc 15 then some (.aload_n 0, 1, 0, 0, 0, mj_u) else none) else
     (bif Nat.beq pc 16 then some (.getfield 9, 3, 4, 0, 87, .null) else none)) else
    (bif Nat.blt pc 20 then (bif Nat.beq pc 19 then some (.iload_n 2, 1, 2, 0, 0, mj_u) else none) else
     (bif Nat.blt pc 21 then (bif Nat.beq pc 20 then some (.iaload, 1, 0, 0, 0, mj_u) else none) else
      (bif Nat.beq pc 21 then some (.invokestatic 74, 3, 59, 0, 506, mj_u) else none)))) else
   (bif Nat.blt pc 28 then (bif Nat.blt pc 25 then (bif Nat.beq pc 24 then some (.istore_n 1, 1, 1, 0, 0, mj_u) else none) else
     (bif Nat.beq pc 25 then some (.iinc 2 1, 3, 2, 0, 0, .int 1) else none)) else
    (bif Nat.blt pc 31 then (bif Nat.beq pc 28 then some (.goto (-22), 3, 6, 0, 0, mj_u) else none) else
     (bif Nat.blt pc 32 then (bif Nat.beq pc 31 then some (.iload_n 1, 1, 1, 0, 0, mj_u) else none) else
      (bif Nat.beq pc 32 then some (.ireturn, 1, 0, 0, 0, mj_u) else none)))))
def m_Land_lowest : mj_M := (58, prog_6_method_12_code, 3, (Option.some Jvm.ClassFile.FieldType.int), 4, 0, 505, 504, 13, 46, 33, k_Land_lowest)
/-- java/lang/Math.min(II)I static -/
def k_Math_min : Nat → Option mj_I := fun pc =>
  bif Nat.blt pc 5 then (bif Nat.blt pc 1 then (bif Nat.beq pc 0 then some (.iload_n 0, 1, 0, 0, 0, mj_u) else none) else
   (bif Nat.blt pc 2 then (bif Nat.beq pc 1 then some (.iload_n 1, 1, 1, 0, 0, mj_u) else none) else
    (bif Nat.beq pc 2 then some (.if_icmp .gt 7, 3, 9, 0, 0, mj_u) else none))) else
  (bif Nat.blt pc 9 then (bif Nat.blt pc 6 then (bif Nat.beq pc 5 then some (.iload_n 0, 1, 0, 0, 0, mj_u) else none) else
    (bif Nat.beq pc 6 then some (.goto 4, 3, 10, 0, 0, mj_u) else none)) else
   (bif Nat.blt pc 10 then (bif Nat.beq pc 9 then some (.iload_n 1, 1, 1, 0, 0, mj_u) else none) else
    (bif Nat.beq pc 10 then some (.ireturn, 1, 0, 0, 0, mj_u) else none)))
def m_Math_min : mj_M := (59, prog_22_method_69_code, 2, (Option.some Jvm.ClassFile.FieldType.int), 12, 2, 508, 507, 0, 62, 11, k_Math_min)
/-- WatershedMap$Land.greatest()I -/
def k_Land_greatest : Nat → Option mj_I := fun pc =>
  bif Nat.blt pc 13 then (bif Nat.blt pc 4 then (bif Nat.blt pc 2 then (bif Nat.blt pc 1 then (bif Nat.beq pc 0 then some (.iconst 0, 1, 0, 0, 0, .int 0) else none) else
     (bif Nat.beq pc 1 then some (.istore_n 1, 1, 1, 0, 0, mj_u) else none)) else
    (bif Nat.blt pc 3 then (bif Nat.beq pc 2 then some (.iconst 0, 1, 0, 0, 0, .int 0) else none) else
     (bif Nat.beq pc 3 then some (.istore_n 2, 1, 2, 0, 0, mj_u) else none))) else
   (bif Nat.blt pc 6 then (bif Nat.blt pc 5 then (bif Nat.beq pc 4 then some (.iload_n 2, 1, 2, 0, 0, mj_u) else none) else
     (bif Nat.beq pc 5 then some (.aload_n 0, 1, 0, 0, 0, mj_u) else none)) else
    (bif Nat.blt pc 9 then (bif Nat.beq pc 6 then some (.getfield 28, 3, 4, 5, 103, .int 0) else none) else
     (bif Nat.blt pc 12 then (bif Nat.beq pc 9 then some (.if_icmp .ge 20, 3, 29, 0, 0, mj_u) else none) else
      (bif Nat.beq pc 12 then some (.iload_n 1, 1, 1, 0, 0, mj_u) else none))))) else
  (bif Nat.blt pc 22 then (bif Nat.blt pc 17 then (bif Nat.blt pc 14 then (bif Nat.beq pc 13 then some (.aload_n 0, 1, 0, 0, 0, mj_u) else none) else
     (bif Nat.beq pc 14 then some (.getfield 9, 3, 4, 0, 87, .null) else none)) else
    (bif Nat.blt pc 18 then (bif Nat.beq pc 17 then some (.iload_n 2, 1, 2, 0, 0, mj_u) else none) else
     (bif Nat.blt pc 19 then (bif Nat.beq pc 18 then some (.iaload, 1, 0, 0, 0, mj_u) else none) else
      (bif Nat.beq pc 19 then some (.invokestatic 77, 3, 26, 0, 487, mj_u) else none)))) else
   (bif Nat.blt pc 26 then (bif Nat.blt pc 23 then (bif Nat.beq pc 22 then some (.istore_n 1, 1, 1, 0, 0, mj_u) else none) else
     (bif Nat.beq pc 23 then some (.iinc 2 1, 3, 2, 0, 0, .int 1) else none)) else
    (bif Nat.blt pc 29 then (bif Nat.beq pc 26 then some (.goto (-22), 3, 4, 0, 0, mj_u) else none) else
     (bif Nat.blt pc 30 then (bif Nat.beq pc 29 then some (.iload_n 1, 1, 1, 0, 0, mj_u) else none) else
      (bif Nat.beq pc 30 then some (.ireturn, 1, 0, 0, 0, mj_u) else none)))))
def m_Land_greatest : mj_M := (60, prog_6_method_13_code, 3, (Option.some Jvm.ClassFile.FieldType.int), 4, 0, 512, 510, 511, 46, 31, k_Land_greatest)
/-- WatershedMap$Land.sum()I -/
def k_Land_sum : Nat → Option mj_I := fun pc =>
  bif Nat.blt pc 13 then (bif Nat.blt pc 4 then (bif Nat.blt pc 2 then (bif Nat.blt pc 1 then (bif Nat.beq pc 0 then some (.iconst 0, 1, 0, 0, 0, .int 0) else none) else
     (bif Nat.beq pc 1 then some (.istore_n 1, 1, 1, 0, 0, mj_u) else none)) else
    (bif Nat.blt pc 3 then (bif Nat.beq pc 2 then some (.iconst 0, 1, 0, 0, 0, .int 0) else none) else
     (bif Nat.beq pc 3 then some (.istore_n 2, 1, 2, 0, 0, mj_u) else none))) else
   (bif Nat.blt pc 6 then (bif Nat.blt pc 5 then (bif Nat.beq pc 4 then some (.iload_n 2, 1, 2, 0, 0, mj_u) else none) else
     (bif Nat.beq pc 5 then some (.aload_n 0, 1, 0, 0, 0, mj_u) else none)) else
    (bif Nat.blt pc 9 then (bif Nat.beq pc 6 then some (.getfield 28, 3, 4, 5, 103, .int 0) else none) else
     (bif Nat.blt pc 12 then (bif Nat.beq pc 9 then some (.if_icmp .ge 18, 3, 27, 0, 0, mj_u) else none) else
      (bif Nat.beq pc 12 then some (.iload_n 1, 1, 1, 0, 0, mj_u) else none))))) else
  (bif Nat.blt pc 20 then (bif Nat.blt pc 17 then (bif Nat.blt pc 14 then (bif Nat.beq pc 13 then some (.aload_n 0, 1, 0, 0, 0, mj_u) else none) else
     (bif Nat.beq pc 14 then some (.getfield 9, 3, 4, 0, 87, .null) else none)) else
    (bif Nat.blt pc 18 then (bif Nat.beq pc 17 then some (.iload_n 2, 1, 2, 0, 0, mj_u) else none) else
     (bif Nat.blt pc 19 then (bif Nat.beq pc 18 then some (.iaload, 1, 0, 0, 0, mj_u) else none) else
      (bif Nat.beq pc 19 then some (.iadd, 1, 0, 0, 0, mj_u) else none)))) else
   (bif Nat.blt pc 24 then (bif Nat.blt pc 21 then (bif Nat.beq pc 20 then some (.istore_n 1, 1, 1, 0, 0, mj_u) else none) else
     (bif Nat.beq pc 21 then some (.iinc 2 1, 3, 2, 0, 0, .int 1) else none)) else
    (bif Nat.blt pc 27 then (bif Nat.beq pc 24 then some (.goto (-20), 3, 4, 0, 0, mj_u) else none) else
     (bif Nat.blt pc 28 then (bif Nat.beq pc 27 then some (.iload_n 1, 1, 1, 0, 0, mj_u) else none) else
      (bif Nat.beq pc 28 then some (.ireturn, 1, 0, 0, 0, mj_u) else none)))))
def m_Land_sum : mj_M := (61, prog_6_method_14_code, 3, (Option.some Jvm.ClassFile.FieldType.int), 4, 0, 516, 515, 14, 46, 29, k_Land_sum)
/-- WatershedMap$Contours.draw(I)V -/
def k_Contours_draw : Nat → Option mj_I := fun pc =>
  bif Nat.blt pc 47 then (bif Nat.blt pc 25 then (bif Nat.blt pc 12 then (bif Nat.blt pc 7 then (bif Nat.blt pc 1 then (bif Nat.beq pc 0 then some (.aload_n 0, 1, 0, 0, 0, mj_u) else none) else
      (bif Nat.blt pc 4 then (bif Nat.beq pc 1 then some (.getfield 18, 3, 0, 2, 227, .null) else none) else
       (bif Nat.beq pc 4 then some (.invokevirtual 26, 3, 27, 0, 523, mj_u) else none))) else
     (bif Nat.blt pc 8 then (bif Nat.beq pc 7 then some (.aload_n 0, 1, 0, 0, 0, mj_u) else none) else
      (bif Nat.blt pc 11 then (bif Nat.beq pc 8 then some (.getfield 9, 3, 0, 1, 226, .null) else none) else
       (bif Nat.beq pc 11 then some (.iconst (-1), 1, 0, 0, 0, .int (-1)) else none)))) else
    (bif Nat.blt pc 17 then (bif Nat.blt pc 15 then (bif Nat.beq pc 12 then some (.invokestatic 29, 3, 10, 0, 524, mj_u) else none) else
      (bif Nat.blt pc 16 then (bif Nat.beq pc 15 then some (.aload_n 0, 1, 0, 0, 0, mj_u) else none) else
       (bif Nat.beq pc 16 then some (.iconst 0, 1, 0, 0, 0, .int 0) else none))) else
     (bif Nat.blt pc 21 then (bif Nat.blt pc 20 then (bif Nat.beq pc 17 then some (.putfield 35, 3, 0, 3, 228, .int 0) else none) else
       (bif Nat.beq pc 20 then some (.aload_n 0, 1, 0, 0, 0, mj_u) else none)) else
      (bif Nat.blt pc 22 then (bif Nat.beq pc 21 then some (.iconst 0, 1, 0, 0, 0, .int 0) else none) else
       (bif Nat.beq pc 22 then some (.putfield 39, 3, 0, 4, 229, .int 0) else none))))) else
   (bif Nat.blt pc 34 then (bif Nat.blt pc 30 then (bif Nat.blt pc 26 then (bif Nat.beq pc 25 then some (.aload_n 0, 1, 0, 0, 0, mj_u) else none) else
      (bif Nat.blt pc 27 then (bif Nat.beq pc 26 then some (.iconst 0, 1, 0, 0, 0, .int 0) else none) else
       (bif Nat.beq pc 27 then some (.putfield 42, 3, 0, 5, 230, .int 0) else none))) else
     (bif Nat.blt pc 32 then (bif Nat.blt pc 31 then (bif Nat.beq pc 30 then some (.iconst 0, 1, 0, 0, 0, .int 0) else none) else
       (bif Nat.beq pc 31 then some (.istore_n 2, 1, 2, 0, 0, mj_u) else none)) else
      (bif Nat.blt pc 33 then (bif Nat.beq pc 32 then some (.iload_n 2, 1, 2, 0, 0, mj_u) else none) else
       (bif Nat.beq pc 33 then some (.aload_n 0, 1, 0, 0, 0, mj_u) else none)))) else
    (bif Nat.blt pc 41 then (bif Nat.blt pc 37 then (bif Nat.beq pc 34 then some (.getfield 22, 3, 0, 0, 225, .null) else none) else
      (bif Nat.blt pc 40 then (bif Nat.beq pc 37 then some (.getfield 45, 3, 4, 4, 100, .int 0) else none) else
       (bif Nat.beq pc 40 then some (.iconst 1, 1, 0, 0, 0, .int 1) else none))) else
     (bif Nat.blt pc 45 then (bif Nat.blt pc 42 then (bif Nat.beq pc 41 then some (.isub, 1, 0, 0, 0, mj_u) else none) else
       (bif Nat.beq pc 42 then some (.if_icmp .ge 55, 3, 97, 0, 0, mj_u) else none)) else
      (bif Nat.blt pc 46 then (bif Nat.beq pc 45 then some (.iconst 0, 1, 0, 0, 0, .int 0) else none) else
       (bif Nat.beq pc 46 then some (.istore_n 3, 1, 3, 0, 0, mj_u) else none)))))) else
  (bif Nat.blt pc 70 then (bif Nat.blt pc 57 then (bif Nat.blt pc 52 then (bif Nat.blt pc 48 then (bif Nat.beq pc 47 then some (.iload_n 3, 1, 3, 0, 0, mj_u) else none) else
      (bif Nat.blt pc 49 then (bif Nat.beq pc 48 then some (.aload_n 0, 1, 0, 0, 0, mj_u) else none) else
       (bif Nat.beq pc 49 then some (.getfield 22, 3, 0, 0, 225, .null) else none))) else
     (bif Nat.blt pc 55 then (bif Nat.beq pc 52 then some (.getfield 50, 3, 4, 3, 96, .int 0) else none) else
      (bif Nat.blt pc 56 then (bif Nat.beq pc 55 then some (.iconst 1, 1, 0, 0, 0, .int 1) else none) else
       (bif Nat.beq pc 56 then some (.isub, 1, 0, 0, 0, mj_u) else none)))) else
    (bif Nat.blt pc 62 then (bif Nat.blt pc 60 then (bif Nat.beq pc 57 then some (.if_icmp .ge 34, 3, 91, 0, 0, mj_u) else none) else
      (bif Nat.blt pc 61 then (bif Nat.beq pc 60 then some (.aload_n 0, 1, 0, 0, 0, mj_u) else none) else
       (bif Nat.beq pc 61 then some (.aload_n 0, 1, 0, 0, 0, mj_u) else none))) else
     (bif Nat.blt pc 66 then (bif Nat.blt pc 65 then (bif Nat.beq pc 62 then some (.getfield 22, 3, 0, 0, 225, .null) else none) else
       (bif Nat.beq pc 65 then some (.iload_n 3, 1, 3, 0, 0, mj_u) else none)) else
      (bif Nat.blt pc 67 then (bif Nat.beq pc 66 then some (.iload_n 2, 1, 2, 0, 0, mj_u) else none) else
       (bif Nat.beq pc 67 then some (.invokevirtual 53, 3, 12, 0, 525, mj_u) else none))))) else
   (bif Nat.blt pc 81 then (bif Nat.blt pc 75 then (bif Nat.blt pc 71 then (bif Nat.beq pc 70 then some (.aload_n 0, 1, 0, 0, 0, mj_u) else none) else
      (bif Nat.blt pc 74 then (bif Nat.beq pc 71 then some (.getfield 22, 3, 0, 0, 225, .null) else none) else
       (bif Nat.beq pc 74 then some (.iload_n 3, 1, 3, 0, 0, mj_u) else none))) else
     (bif Nat.blt pc 77 then (bif Nat.blt pc 76 then (bif Nat.beq pc 75 then some (.iload_n 2, 1, 2, 0, 0, mj_u) else none) else
       (bif Nat.beq pc 76 then some (.iconst 1, 1, 0, 0, 0, .int 1) else none)) else
      (bif Nat.blt pc 78 then (bif Nat.beq pc 77 then some (.iadd, 1, 0, 0, 0, mj_u) else none) else
       (bif Nat.beq pc 78 then some (.invokevirtual 53, 3, 12, 0, 525, mj_u) else none)))) else
    (bif Nat.blt pc 88 then (bif Nat.blt pc 82 then (bif Nat.beq pc 81 then some (.iload_n 1, 1, 1, 0, 0, mj_u) else none) else
      (bif Nat.blt pc 85 then (bif Nat.beq pc 82 then some (.invokevirtual 57, 3, 63, 0, 526, mj_u) else none) else
       (bif Nat.beq pc 85 then some (.iinc 3 1, 3, 3, 0, 0, .int 1) else none))) else
     (bif Nat.blt pc 94 then (bif Nat.blt pc 91 then (bif Nat.beq pc 88 then some (.goto (-41), 3, 47, 0, 0, mj_u) else none) else
       (bif Nat.beq pc 91 then some (.iinc 2 1, 3, 2, 0, 0, .int 1) else none)) else
      (bif Nat.blt pc 97 then (bif Nat.beq pc 94 then some (.goto (-62), 3, 32, 0, 0, mj_u) else none) else
       (bif Nat.beq pc 97 then some (.return_, 1, 0, 0, 0, mj_u) else none))))))
def m_Contours_draw : mj_M := (62, prog_2_method_2_code, 4, (Option.none : Option Jvm.ClassFile.FieldType), 0, 1, 522, 520, 521, 51, 98, k_Contours_draw)
/-- WatershedMap$Contours.drawSquare(III)V -/
def k_Contours_drawSquare : Nat → Option mj_I := fun pc =>
  bif Nat.blt pc 135 then (bif Nat.blt pc 63 then (bif Nat.blt pc 31 then (bif Nat.blt pc 17 then (bif Nat.blt pc 8 then (bif Nat.blt pc 4 then (bif Nat.blt pc 1 then (bif Nat.beq pc 0 then some (.aload_n 0, 1, 0, 0, 0, mj_u) else none) else
        (bif Nat.beq pc 1 then some (.getfield 22, 3, 0, 0, 225, .null) else none)) else
       (bif Nat.blt pc 7 then (bif Nat.beq pc 4 then some (.getfield 61, 3, 4, 0, 89, .null) else none) else
        (bif Nat.beq pc 7 then some (.iload_n 1, 1, 1, 0, 0, mj_u) else none))) else
      (bif Nat.blt pc 10 then (bif Nat.blt pc 9 then (bif Nat.beq pc 8 then some (.iaload, 1, 0, 0, 0, mj_u) else none) else
        (bif Nat.beq pc 9 then some (.iload_n 3, 1, 3, 0, 0, mj_u) else none)) else
       (bif Nat.blt pc 13 then (bif Nat.beq pc 10 then some (.if_icmp .le 7, 3, 17, 0, 0, mj_u) else none) else
        (bif Nat.blt pc 14 then (bif Nat.beq pc 13 then some (.iconst 1, 1, 0, 0, 0, .int 1) else none) else
         (bif Nat.beq pc 14 then some (.goto 4, 3, 18, 0, 0, mj_u) else none))))) else
     (bif Nat.blt pc 24 then (bif Nat.blt pc 20 then (bif Nat.blt pc 18 then (bif Nat.beq pc 17 then some (.iconst 0, 1, 0, 0, 0, .int 0) else none) else
        (bif Nat.beq pc 18 then some (.istore 4, 2, 4, 0, 0, mj_u) else none)) else
       (bif Nat.blt pc 21 then (bif Nat.beq pc 20 then some (.aload_n 0, 1, 0, 0, 0, mj_u) else none) else
        (bif Nat.beq pc 21 then some (.getfield 22, 3, 0, 0, 225, .null) else none))) else
      (bif Nat.blt pc 28 then (bif Nat.blt pc 27 then (bif Nat.beq pc 24 then some (.getfield 61, 3, 4, 0, 89, .null) else none) else
        (bif Nat.beq pc 27 then some (.iload_n 1, 1, 1, 0, 0, mj_u) else none)) else
       (bif Nat.blt pc 29 then (bif Nat.beq pc 28 then some (.iconst 1, 1, 0, 0, 0, .int 1) else none) else
        (bif Nat.blt pc 30 then (bif Nat.beq pc 29 then some (.iadd, 1, 0, 0, 0, mj_u) else none) else
         (bif Nat.beq pc 30 then some (.iaload, 1, 0, 0, 0, mj_u) else none)))))) else
    (bif Nat.blt pc 49 then (bif Nat.blt pc 39 then (bif Nat.blt pc 35 then (bif Nat.blt pc 32 then (bif Nat.beq pc 31 then some (.iload_n 3, 1, 3, 0, 0, mj_u) else none) else
        (bif Nat.beq pc 32 then some (.if_icmp .le 7, 3, 39, 0, 0, mj_u) else none)) else
       (bif Nat.blt pc 36 then (bif Nat.beq pc 35 then some (.iconst 1, 1, 0, 0, 0, .int 1) else none) else
        (bif Nat.beq pc 36 then some (.goto 4, 3, 40, 0, 0, mj_u) else none))) else
      (bif Nat.blt pc 42 then (bif Nat.blt pc 40 then (bif Nat.beq pc 39 then some (.iconst 0, 1, 0, 0, 0, .int 0) else none) else
        (bif Nat.beq pc 40 then some (.istore 5, 2, 5, 0, 0, mj_u) else none)) else
       (bif Nat.blt pc 43 then (bif Nat.beq pc 42 then some (.aload_n 0, 1, 0, 0, 0, mj_u) else none) else
        (bif Nat.blt pc 46 then (bif Nat.beq pc 43 then some (.getfield 22, 3, 0, 0, 225, .null) else none) else
         (bif Nat.beq pc 46 then some (.getfield 61, 3, 4, 0, 89, .null) else none))))) else
     (bif Nat.blt pc 55 then (bif Nat.blt pc 51 then (bif Nat.blt pc 50 then (bif Nat.beq pc 49 then some (.iload_n 2, 1, 2, 0, 0, mj_u) else none) else
        (bif Nat.beq pc 50 then some (.iaload, 1, 0, 0, 0, mj_u) else none)) else
       (bif Nat.blt pc 52 then (bif Nat.beq pc 51 then some (.iload_n 3, 1, 3, 0, 0, mj_u) else none) else
        (bif Nat.beq pc 52 then some (.if_icmp .le 7, 3, 59, 0, 0, mj_u) else none))) else
      (bif Nat.blt pc 59 then (bif Nat.blt pc 56 then (bif Nat.beq pc 55 then some (.iconst 1, 1, 0, 0, 0, .int 1) else none) else
        (bif Nat.beq pc 56 then some (.goto 4, 3, 60, 0, 0, mj_u) else none)) else
       (bif Nat.blt pc 60 then (bif Nat.beq pc 59 then some (.iconst 0, 1, 0, 0, 0, .int 0) else none) else
        (bif Nat.blt pc 62 then (bif Nat.beq pc 60 then some (.istore 6, 2, 6, 0, 0, mj_u) else none) else
         (bif Nat.beq pc 62 then some (.aload_n 0, 1, 0, 0, 0, mj_u) else none))))))) else
   (bif Nat.blt pc 98 then (bif Nat.blt pc 78 then (bif Nat.blt pc 71 then (bif Nat.blt pc 69 then (bif Nat.blt pc 66 then (bif Nat.beq pc 63 then some (.getfield 22, 3, 0, 0, 225, .null) else none) else
        (bif Nat.beq pc 66 then some (.getfield 61, 3, 4, 0, 89, .null) else none)) else
       (bif Nat.blt pc 70 then (bif Nat.beq pc 69 then some (.iload_n 2, 1, 2, 0, 0, mj_u) else none) else
        (bif Nat.beq pc 70 then some (.iconst 1, 1, 0, 0, 0, .int 1) else none))) else
      (bif Nat.blt pc 73 then (bif Nat.blt pc 72 then (bif Nat.beq pc 71 then some (.iadd, 1, 0, 0, 0, mj_u) else none) else
        (bif Nat.beq pc 72 then some (.iaload, 1, 0, 0, 0, mj_u) else none)) else
       (bif Nat.blt pc 74 then (bif Nat.beq pc 73 then some (.iload_n 3, 1, 3, 0, 0, mj_u) else none) else
        (bif Nat.blt pc 77 then (bif Nat.beq pc 74 then some (.if_icmp .le 7, 3, 81, 0, 0, mj_u) else none) else
         (bif Nat.beq pc 77 then some (.iconst 1, 1, 0, 0, 0, .int 1) else none))))) else
     (bif Nat.blt pc 86 then (bif Nat.blt pc 82 then (bif Nat.blt pc 81 then (bif Nat.beq pc 78 then some (.goto 4, 3, 82, 0, 0, mj_u) else none) else
        (bif Nat.beq pc 81 then some (.iconst 0, 1, 0, 0, 0, .int 0) else none)) else
       (bif Nat.blt pc 84 then (bif Nat.beq pc 82 then some (.istore 7, 2, 7, 0, 0, mj_u) else none) else
        (bif Nat.beq pc 84 then some (.iload 4, 2, 4, 0, 0, mj_u) else none))) else
      (bif Nat.blt pc 91 then (bif Nat.blt pc 88 then (bif Nat.beq pc 86 then some (.iload 5, 2, 5, 0, 0, mj_u) else none) else
        (bif Nat.beq pc 88 then some (.if_icmp .eq 10, 3, 98, 0, 0, mj_u) else none)) else
       (bif Nat.blt pc 92 then (bif Nat.beq pc 91 then some (.iload_n 1, 1, 1, 0, 0, mj_u) else none) else
        (bif Nat.blt pc 95 then (bif Nat.beq pc 92 then some (.invokestatic 64, 3, 64, 0, 530, mj_u) else none) else
         (bif Nat.beq pc 95 then some (.goto 4, 3, 99, 0, 0, mj_u) else none)))))) else
    (bif Nat.blt pc 114 then (bif Nat.blt pc 105 then (bif Nat.blt pc 101 then (bif Nat.blt pc 99 then (bif Nat.beq pc 98 then some (.iconst (-1), 1, 0, 0, 0, .int (-1)) else none) else
        (bif Nat.beq pc 99 then some (.istore 8, 2, 8, 0, 0, mj_u) else none)) else
       (bif Nat.blt pc 103 then (bif Nat.beq pc 101 then some (.iload 5, 2, 5, 0, 0, mj_u) else none) else
        (bif Nat.beq pc 103 then some (.iload 7, 2, 7, 0, 0, mj_u) else none))) else
      (bif Nat.blt pc 109 then (bif Nat.blt pc 108 then (bif Nat.beq pc 105 then some (.if_icmp .eq 12, 3, 117, 0, 0, mj_u) else none) else
        (bif Nat.beq pc 108 then some (.iload_n 1, 1, 1, 0, 0, mj_u) else none)) else
       (bif Nat.blt pc 110 then (bif Nat.beq pc 109 then some (.iconst 1, 1, 0, 0, 0, .int 1) else none) else
        (bif Nat.blt pc 111 then (bif Nat.beq pc 110 then some (.iadd, 1, 0, 0, 0, mj_u) else none) else
         (bif Nat.beq pc 111 then some (.invokestatic 68, 3, 65, 0, 533, mj_u) else none))))) else
     (bif Nat.blt pc 124 then (bif Nat.blt pc 118 then (bif Nat.blt pc 117 then (bif Nat.beq pc 114 then some (.goto 4, 3, 118, 0, 0, mj_u) else none) else
        (bif Nat.beq pc 117 then some (.iconst (-1), 1, 0, 0, 0, .int (-1)) else none)) else
       (bif Nat.blt pc 120 then (bif Nat.beq pc 118 then some (.istore 9, 2, 9, 0, 0, mj_u) else none) else
        (bif Nat.blt pc 122 then (bif Nat.beq pc 120 then some (.iload 6, 2, 6, 0, 0, mj_u) else none) else
         (bif Nat.beq pc 122 then some (.iload 7, 2, 7, 0, 0, mj_u) else none)))) else
      (bif Nat.blt pc 128 then (bif Nat.blt pc 127 then (bif Nat.beq pc 124 then some (.if_icmp .eq 10, 3, 134, 0, 0, mj_u) else none) else
        (bif Nat.beq pc 127 then some (.iload_n 2, 1, 2, 0, 0, mj_u) else none)) else
       (bif Nat.blt pc 131 then (bif Nat.beq pc 128 then some (.invokestatic 64, 3, 64, 0, 530, mj_u) else none) else
        (bif Nat.blt pc 134 then (bif Nat.beq pc 131 then some (.goto 4, 3, 135, 0, 0, mj_u) else none) else
         (bif Nat.beq pc 134 then some (.iconst (-1), 1, 0, 0, 0, .int (-1)) else none)))))))) else
  (bif Nat.blt pc 209 then (bif Nat.blt pc 175 then (bif Nat.blt pc 154 then (bif Nat.blt pc 144 then (bif Nat.blt pc 139 then (bif Nat.blt pc 137 then (bif Nat.beq pc 135 then some (.istore 10, 2, 10, 0, 0, mj_u) else none) else
        (bif Nat.beq pc 137 then some (.iload 4, 2, 4, 0, 0, mj_u) else none)) else
       (bif Nat.blt pc 141 then (bif Nat.beq pc 139 then some (.iload 6, 2, 6, 0, 0, mj_u) else none) else
        (bif Nat.beq pc 141 then some (.if_icmp .eq 10, 3, 151, 0, 0, mj_u) else none))) else
      (bif Nat.blt pc 148 then (bif Nat.blt pc 145 then (bif Nat.beq pc 144 then some (.iload_n 1, 1, 1, 0, 0, mj_u) else none) else
        (bif Nat.beq pc 145 then some (.invokestatic 68, 3, 65, 0, 533, mj_u) else none)) else
       (bif Nat.blt pc 151 then (bif Nat.beq pc 148 then some (.goto 4, 3, 152, 0, 0, mj_u) else none) else
        (bif Nat.blt pc 152 then (bif Nat.beq pc 151 then some (.iconst (-1), 1, 0, 0, 0, .int (-1)) else none) else
         (bif Nat.beq pc 152 then some (.istore 11, 2, 11, 0, 0, mj_u) else none))))) else
     (bif Nat.blt pc 163 then (bif Nat.blt pc 158 then (bif Nat.blt pc 156 then (bif Nat.beq pc 154 then some (.iload 4, 2, 4, 0, 0, mj_u) else none) else
        (bif Nat.beq pc 156 then some (.iload 7, 2, 7, 0, 0, mj_u) else none)) else
       (bif Nat.blt pc 161 then (bif Nat.beq pc 158 then some (.if_icmp .ne 79, 3, 237, 0, 0, mj_u) else none) else
        (bif Nat.beq pc 161 then some (.iload 5, 2, 5, 0, 0, mj_u) else none))) else
      (bif Nat.blt pc 168 then (bif Nat.blt pc 165 then (bif Nat.beq pc 163 then some (.iload 6, 2, 6, 0, 0, mj_u) else none) else
        (bif Nat.beq pc 165 then some (.if_icmp .ne 72, 3, 237, 0, 0, mj_u) else none)) else
       (bif Nat.blt pc 170 then (bif Nat.beq pc 168 then some (.iload 4, 2, 4, 0, 0, mj_u) else none) else
        (bif Nat.blt pc 172 then (bif Nat.beq pc 170 then some (.iload 5, 2, 5, 0, 0, mj_u) else none) else
         (bif Nat.beq pc 172 then some (.if_icmp .eq 65, 3, 237, 0, 0, mj_u) else none)))))) else
    (bif Nat.blt pc 188 then (bif Nat.blt pc 181 then (bif Nat.blt pc 177 then (bif Nat.blt pc 176 then (bif Nat.beq pc 175 then some (.aload_n 0, 1, 0, 0, 0, mj_u) else none) else
        (bif Nat.beq pc 176 then some (.iload_n 1, 1, 1, 0, 0, mj_u) else none)) else
       (bif Nat.blt pc 178 then (bif Nat.beq pc 177 then some (.iload_n 2, 1, 2, 0, 0, mj_u) else none) else
        (bif Nat.beq pc 178 then some (.invokevirtual 71, 3, 66, 0, 536, mj_u) else none))) else
      (bif Nat.blt pc 183 then (bif Nat.blt pc 182 then (bif Nat.beq pc 181 then some (.iconst 4, 1, 0, 0, 0, .int 4) else none) else
        (bif Nat.beq pc 182 then some (.iload_n 3, 1, 3, 0, 0, mj_u) else none)) else
       (bif Nat.blt pc 184 then (bif Nat.beq pc 183 then some (.imul, 1, 0, 0, 0, mj_u) else none) else
        (bif Nat.blt pc 187 then (bif Nat.beq pc 184 then some (.if_icmp .gt 7, 3, 191, 0, 0, mj_u) else none) else
         (bif Nat.beq pc 187 then some (.iconst 1, 1, 0, 0, 0, .int 1) else none))))) else
     (bif Nat.blt pc 197 then (bif Nat.blt pc 192 then (bif Nat.blt pc 191 then (bif Nat.beq pc 188 then some (.goto 4, 3, 192, 0, 0, mj_u) else none) else
        (bif Nat.beq pc 191 then some (.iconst 0, 1, 0, 0, 0, .int 0) else none)) else
       (bif Nat.blt pc 194 then (bif Nat.beq pc 192 then some (.istore 12, 2, 12, 0, 0, mj_u) else none) else
        (bif Nat.blt pc 195 then (bif Nat.beq pc 194 then some (.aload_n 0, 1, 0, 0, 0, mj_u) else none) else
         (bif Nat.beq pc 195 then some (.iload 8, 2, 8, 0, 0, mj_u) else none)))) else
      (bif Nat.blt pc 201 then (bif Nat.blt pc 199 then (bif Nat.beq pc 197 then some (.iload 12, 2, 12, 0, 0, mj_u) else none) else
        (bif Nat.beq pc 199 then some (.iload 4, 2, 4, 0, 0, mj_u) else none)) else
       (bif Nat.blt pc 204 then (bif Nat.beq pc 201 then some (.if_icmp .ne 8, 3, 209, 0, 0, mj_u) else none) else
        (bif Nat.blt pc 206 then (bif Nat.beq pc 204 then some (.iload 11, 2, 11, 0, 0, mj_u) else none) else
         (bif Nat.beq pc 206 then some (.goto 5, 3, 211, 0, 0, mj_u) else none))))))) else
   (bif Nat.blt pc 252 then (bif Nat.blt pc 229 then (bif Nat.blt pc 217 then (bif Nat.blt pc 214 then (bif Nat.blt pc 211 then (bif Nat.beq pc 209 then some (.iload 9, 2, 9, 0, 0, mj_u) else none) else
        (bif Nat.beq pc 211 then some (.invokevirtual 74, 3, 67, 0, 540, mj_u) else none)) else
       (bif Nat.blt pc 215 then (bif Nat.beq pc 214 then some (.aload_n 0, 1, 0, 0, 0, mj_u) else none) else
        (bif Nat.beq pc 215 then some (.iload 10, 2, 10, 0, 0, mj_u) else none))) else
      (bif Nat.blt pc 221 then (bif Nat.blt pc 219 then (bif Nat.beq pc 217 then some (.iload 12, 2, 12, 0, 0, mj_u) else none) else
        (bif Nat.beq pc 219 then some (.iload 4, 2, 4, 0, 0, mj_u) else none)) else
       (bif Nat.blt pc 224 then (bif Nat.beq pc 221 then some (.if_icmp .ne 8, 3, 229, 0, 0, mj_u) else none) else
        (bif Nat.blt pc 226 then (bif Nat.beq pc 224 then some (.iload 9, 2, 9, 0, 0, mj_u) else none) else
         (bif Nat.beq pc 226 then some (.goto 5, 3, 231, 0, 0, mj_u) else none))))) else
     (bif Nat.blt pc 239 then (bif Nat.blt pc 234 then (bif Nat.blt pc 231 then (bif Nat.beq pc 229 then some (.iload 11, 2, 11, 0, 0, mj_u) else none) else
        (bif Nat.beq pc 231 then some (.invokevirtual 74, 3, 67, 0, 540, mj_u) else none)) else
       (bif Nat.blt pc 237 then (bif Nat.beq pc 234 then some (.goto 59, 3, 293, 0, 0, mj_u) else none) else
        (bif Nat.beq pc 237 then some (.iload 8, 2, 8, 0, 0, mj_u) else none))) else
      (bif Nat.blt pc 244 then (bif Nat.blt pc 242 then (bif Nat.beq pc 239 then some (.ifCond .lt 8, 3, 247, 0, 0, mj_u) else none) else
        (bif Nat.beq pc 242 then some (.iload 8, 2, 8, 0, 0, mj_u) else none)) else
       (bif Nat.blt pc 247 then (bif Nat.beq pc 244 then some (.goto 15, 3, 259, 0, 0, mj_u) else none) else
        (bif Nat.blt pc 249 then (bif Nat.beq pc 247 then some (.iload 9, 2, 9, 0, 0, mj_u) else none) else
         (bif Nat.beq pc 249 then some (.ifCond .lt 8, 3, 257, 0, 0, mj_u) else none)))))) else
    (bif Nat.blt pc 273 then (bif Nat.blt pc 261 then (bif Nat.blt pc 257 then (bif Nat.blt pc 254 then (bif Nat.beq pc 252 then some (.iload 9, 2, 9, 0, 0, mj_u) else none) else
        (bif Nat.beq pc 254 then some (.goto 5, 3, 259, 0, 0, mj_u) else none)) else
       (bif Nat.blt pc 259 then (bif Nat.beq pc 257 then some (.iload 10, 2, 10, 0, 0, mj_u) else none) else
        (bif Nat.beq pc 259 then some (.istore 12, 2, 12, 0, 0, mj_u) else none))) else
      (bif Nat.blt pc 266 then (bif Nat.blt pc 263 then (bif Nat.beq pc 261 then some (.iload 11, 2, 11, 0, 0, mj_u) else none) else
        (bif Nat.beq pc 263 then some (.ifCond .lt 8, 3, 271, 0, 0, mj_u) else none)) else
       (bif Nat.blt pc 268 then (bif Nat.beq pc 266 then some (.iload 11, 2, 11, 0, 0, mj_u) else none) else
        (bif Nat.blt pc 271 then (bif Nat.beq pc 268 then some (.goto 15, 3, 283, 0, 0, mj_u) else none) else
         (bif Nat.beq pc 271 then some (.iload 10, 2, 10, 0, 0, mj_u) else none))))) else
     (bif Nat.blt pc 285 then (bif Nat.blt pc 278 then (bif Nat.blt pc 276 then (bif Nat.beq pc 273 then some (.ifCond .lt 8, 3, 281, 0, 0, mj_u) else none) else
        (bif Nat.beq pc 276 then some (.iload 10, 2, 10, 0, 0, mj_u) else none)) else
       (bif Nat.blt pc 281 then (bif Nat.beq pc 278 then some (.goto 5, 3, 283, 0, 0, mj_u) else none) else
        (bif Nat.blt pc 283 then (bif Nat.beq pc 281 then some (.iload 9, 2, 9, 0, 0, mj_u) else none) else
         (bif Nat.beq pc 283 then some (.istore 13, 2, 13, 0, 0, mj_u) else none)))) else
      (bif Nat.blt pc 288 then (bif Nat.blt pc 286 then (bif Nat.beq pc 285 then some (.aload_n 0, 1, 0, 0, 0, mj_u) else none) else
        (bif Nat.beq pc 286 then some (.iload 12, 2, 12, 0, 0, mj_u) else none)) else
       (bif Nat.blt pc 290 then (bif Nat.beq pc 288 then some (.iload 13, 2, 13, 0, 0, mj_u) else none) else
        (bif Nat.blt pc 293 then (bif Nat.beq pc 290 then some (.invokevirtual 74, 3, 67, 0, 540, mj_u) else none) else
         (bif Nat.beq pc 293 then some (.return_, 1, 0, 0, 0, mj_u) else none))))))))
def m_Contours_drawSquare : mj_M := (63, prog_2_method_3_code, 14, (Option.none : Option Jvm.ClassFile.FieldType), 0, 3, 529, 528, 15, 51, 294, k_Contours_drawSquare)
/-- WatershedMap$Contours.sideRightOf(I)I static -/
def k_Contours_sideRightOf : Nat → Option mj_I := fun pc =>
  bif Nat.blt pc 2 then (bif Nat.blt pc 1 then (bif Nat.beq pc 0 then some (.iconst 2, 1, 0, 0, 0, .int 2) else none) else
   (bif Nat.beq pc 1 then some (.iload_n 0, 1, 0, 0, 0, mj_u) else none)) else
  (bif Nat.blt pc 3 then (bif Nat.beq pc 2 then some (.imul, 1, 0, 0, 0, mj_u) else none) else
   (bif Nat.beq pc 3 then some (.ireturn, 1, 0, 0, 0, mj_u) else none))
def m_Contours_sideRightOf : mj_M := (64, prog_2_method_4_code, 1, (Option.some Jvm.ClassFile.FieldType.int), 0, 1, 532, 531, 0, 51, 4, k_Contours_sideRightOf)
/-- WatershedMap$Contours.sideBelow(I)I static -/
def k_Contours_sideBelow : Nat → Option mj_I := fun pc =>
  bif Nat.blt pc 3 then (bif Nat.blt pc 1 then (bif Nat.beq pc 0 then some (.iconst 2, 1, 0, 0, 0, .int 2) else none) else
   (bif Nat.blt pc 2 then (bif Nat.beq pc 1 then some (.iload_n 0, 1, 0, 0, 0, mj_u) else none) else
    (bif Nat.beq pc 2 then some (.imul, 1, 0, 0, 0, mj_u) else none))) else
  (bif Nat.blt pc 4 then (bif Nat.beq pc 3 then some (.iconst 1, 1, 0, 0, 0, .int 1) else none) else
   (bif Nat.blt pc 5 then (bif Nat.beq pc 4 then some (.iadd, 1, 0, 0, 0, mj_u) else none) else
    (bif Nat.beq pc 5 then some (.ireturn, 1, 0, 0, 0, mj_u) else none)))
def m_Contours_sideBelow : mj_M := (65, prog_2_method_5_code, 1, (Option.some Jvm.ClassFile.FieldType.int), 0, 1, 535, 534, 0, 51, 6, k_Contours_sideBelow)
/-- WatershedMap$Contours.sumOfSquare(II)I -/
def k_Contours_sumOfSquare : Nat → Option mj_I := fun pc =>
  bif Nat.blt pc 22 then (bif Nat.blt pc 13 then (bif Nat.blt pc 7 then (bif Nat.blt pc 1 then (bif Nat.beq pc 0 then some (.aload_n 0, 1, 0, 0, 0, mj_u) else none) else
     (bif Nat.blt pc 4 then (bif Nat.beq pc 1 then some (.getfield 22, 3, 0, 0, 225, .null) else none) else
      (bif Nat.beq pc 4 then some (.getfield 61, 3, 4, 0, 89, .null) else none))) else
    (bif Nat.blt pc 9 then (bif Nat.blt pc 8 then (bif Nat.beq pc 7 then some (.iload_n 1, 1, 1, 0, 0, mj_u) else none) else
      (bif Nat.beq pc 8 then some (.iaload, 1, 0, 0, 0, mj_u) else none)) else
     (bif Nat.blt pc 10 then (bif Nat.beq pc 9 then some (.aload_n 0, 1, 0, 0, 0, mj_u) else none) else
      (bif Nat.beq pc 10 then some (.getfield 22, 3, 0, 0, 225, .null) else none)))) else
   (bif Nat.blt pc 18 then (bif Nat.blt pc 16 then (bif Nat.beq pc 13 then some (.getfield 61, 3, 4, 0, 89, .null) else none) else
     (bif Nat.blt pc 17 then (bif Nat.beq pc 16 then some (.iload_n 1, 1, 1, 0, 0, mj_u) else none) else
      (bif Nat.beq pc 17 then some (.iconst 1, 1, 0, 0, 0, .int 1) else none))) else
    (bif Nat.blt pc 20 then (bif Nat.blt pc 19 then (bif Nat.beq pc 18 then some (.iadd, 1, 0, 0, 0, mj_u) else none) else
      (bif Nat.beq pc 19 then some (.iaload, 1, 0, 0, 0, mj_u) else none)) else
     (bif Nat.blt pc 21 then (bif Nat.beq pc 20 then some (.iadd, 1, 0, 0, 0, mj_u) else none) else
      (bif Nat.beq pc 21 then some (.aload_n 0, 1, 0, 0, 0, mj_u) else none))))) else
  (bif Nat.blt pc 35 then (bif Nat.blt pc 29 then (bif Nat.blt pc 25 then (bif Nat.beq pc 22 then some (.getfield 22, 3, 0, 0, 225, .null) else none) else
     (bif Nat.blt pc 28 then (bif Nat.beq pc 25 then some (.getfield 61, 3, 4, 0, 89, .null) else none) else
      (bif Nat.beq pc 28 then some (.iload_n 2, 1, 2, 0, 0, mj_u) else none))) else
    (bif Nat.blt pc 31 then (bif Nat.blt pc 30 then (bif Nat.beq pc 29 then some (.iaload, 1, 0, 0, 0, mj_u) else none) else
      (bif Nat.beq pc 30 then some (.iadd, 1, 0, 0, 0, mj_u) else none)) else
     (bif Nat.blt pc 32 then (bif Nat.beq pc 31 then some (.aload_n 0, 1, 0, 0, 0, mj_u) else none) else
      (bif Nat.beq pc 32 then some (.getfield 22, 3, 0, 0, 225, .null) else none)))) else
   (bif Nat.blt pc 40 then (bif Nat.blt pc 38 then (bif Nat.beq pc 35 then some (.getfield 61, 3, 4, 0, 89, .null) else none) else
     (bif Nat.blt pc 39 then (bif Nat.beq pc 38 then some (.iload_n 2, 1, 2, 0, 0, mj_u) else none) else
      (bif Nat.beq pc 39 then some (.iconst 1, 1, 0, 0, 0, .int 1) else none))) else
    (bif Nat.blt pc 42 then (bif Nat.blt pc 41 then (bif Nat.beq pc 40 then some (.iadd, 1, 0, 0, 0, mj_u) else none) else
      (bif Nat.beq pc 41 then some (.iaload, 1, 0, 0, 0, mj_u) else none)) else
     (bif Nat.blt pc 43 then (bif Nat.beq pc 42 then some (.iadd, 1, 0, 0, 0, mj_u) else none) else
      (bif Nat.beq pc 43 then some (.ireturn, 1, 0, 0, 0, mj_u) else none)))))
def m_Contours_sumOfSquare : mj_M := (66, prog_2_method_6_code, 3, (Option.some Jvm.ClassFile.FieldType.int), 0, 2, 539, 538, 16, 51, 44, k_Contours_sumOfSquare)
/-- WatershedMap$Contours.addPiece(II)V -/
def k_Contours_addPiece : Nat → Option mj_I := fun pc =>
  bif Nat.blt pc 24 then (bif Nat.blt pc 13 then (bif Nat.blt pc 5 then (bif Nat.blt pc 1 then (bif Nat.beq pc 0 then some (.iload_n 1, 1, 1, 0, 0, mj_u) else none) else
     (bif Nat.blt pc 4 then (bif Nat.beq pc 1 then some (.ifCond .lt 44, 3, 45, 0, 0, mj_u) else none) else
      (bif Nat.beq pc 4 then some (.iload_n 2, 1, 2, 0, 0, mj_u) else none))) else
    (bif Nat.blt pc 9 then (bif Nat.blt pc 8 then (bif Nat.beq pc 5 then some (.ifCond .lt 40, 3, 45, 0, 0, mj_u) else none) else
      (bif Nat.beq pc 8 then some (.aload_n 0, 1, 0, 0, 0, mj_u) else none)) else
     (bif Nat.blt pc 12 then (bif Nat.beq pc 9 then some (.getfield 35, 3, 0, 3, 228, .int 0) else none) else
      (bif Nat.beq pc 12 then some (.istore_n 3, 1, 3, 0, 0, mj_u) else none)))) else
   (bif Nat.blt pc 18 then (bif Nat.blt pc 14 then (bif Nat.beq pc 13 then some (.aload_n 0, 1, 0, 0, 0, mj_u) else none) else
     (bif Nat.blt pc 15 then (bif Nat.beq pc 14 then some (.dup, 1, 0, 0, 0, mj_u) else none) else
      (bif Nat.beq pc 15 then some (.getfield 35, 3, 0, 3, 228, .int 0) else none))) else
    (bif Nat.blt pc 20 then (bif Nat.blt pc 19 then (bif Nat.beq pc 18 then some (.iconst 1, 1, 0, 0, 0, .int 1) else none) else
      (bif Nat.beq pc 19 then some (.iadd, 1, 0, 0, 0, mj_u) else none)) else
     (bif Nat.blt pc 23 then (bif Nat.beq pc 20 then some (.putfield 35, 3, 0, 3, 228, .int 0) else none) else
      (bif Nat.beq pc 23 then some (.aload_n 0, 1, 0, 0, 0, mj_u) else none))))) else
  (bif Nat.blt pc 35 then (bif Nat.blt pc 29 then (bif Nat.blt pc 25 then (bif Nat.beq pc 24 then some (.dup, 1, 0, 0, 0, mj_u) else none) else
     (bif Nat.blt pc 28 then (bif Nat.beq pc 25 then some (.getfield 39, 3, 0, 4, 229, .int 0) else none) else
      (bif Nat.beq pc 28 then some (.iconst 1, 1, 0, 0, 0, .int 1) else none))) else
    (bif Nat.blt pc 33 then (bif Nat.blt pc 30 then (bif Nat.beq pc 29 then some (.iadd, 1, 0, 0, 0, mj_u) else none) else
      (bif Nat.beq pc 30 then some (.putfield 39, 3, 0, 4, 229, .int 0) else none)) else
     (bif Nat.blt pc 34 then (bif Nat.beq pc 33 then some (.aload_n 0, 1, 0, 0, 0, mj_u) else none) else
      (bif Nat.beq pc 34 then some (.iload_n 1, 1, 1, 0, 0, mj_u) else none)))) else
   (bif Nat.blt pc 40 then (bif Nat.blt pc 36 then (bif Nat.beq pc 35 then some (.iload_n 3, 1, 3, 0, 0, mj_u) else none) else
     (bif Nat.blt pc 39 then (bif Nat.beq pc 36 then some (.invokevirtual 78, 3, 68, 0, 544, mj_u) else none) else
      (bif Nat.beq pc 39 then some (.aload_n 0, 1, 0, 0, 0, mj_u) else none))) else
    (bif Nat.blt pc 42 then (bif Nat.blt pc 41 then (bif Nat.beq pc 40 then some (.iload_n 2, 1, 2, 0, 0, mj_u) else none) else
      (bif Nat.beq pc 41 then some (.iload_n 3, 1, 3, 0, 0, mj_u) else none)) else
     (bif Nat.blt pc 45 then (bif Nat.beq pc 42 then some (.invokevirtual 78, 3, 68, 0, 544, mj_u) else none) else
      (bif Nat.beq pc 45 then some (.return_, 1, 0, 0, 0, mj_u) else none)))))
def m_Contours_addPiece : mj_M := (67, prog_2_method_7_code, 4, (Option.none : Option Jvm.ClassFile.FieldType), 0, 2, 543, 542, 17, 51, 46, k_Contours_addPiece)
/-- WatershedMap$Contours.tie(II)V -/
def k_Contours_tie : Nat → Option mj_I := fun pc =>
  bif Nat.blt pc 24 then (bif Nat.blt pc 12 then (bif Nat.blt pc 6 then (bif Nat.blt pc 4 then (bif Nat.blt pc 1 then (bif Nat.beq pc 0 then some (.aload_n 0, 1, 0, 0, 0, mj_u) else none) else
      (bif Nat.beq pc 1 then some (.getfield 9, 3, 0, 1, 226, .null) else none)) else
     (bif Nat.blt pc 5 then (bif Nat.beq pc 4 then some (.iload_n 1, 1, 1, 0, 0, mj_u) else none) else
      (bif Nat.beq pc 5 then some (.iaload, 1, 0, 0, 0, mj_u) else none))) else
    (bif Nat.blt pc 8 then (bif Nat.blt pc 7 then (bif Nat.beq pc 6 then some (.istore_n 3, 1, 3, 0, 0, mj_u) else none) else
      (bif Nat.beq pc 7 then some (.aload_n 0, 1, 0, 0, 0, mj_u) else none)) else
     (bif Nat.blt pc 11 then (bif Nat.beq pc 8 then some (.getfield 9, 3, 0, 1, 226, .null) else none) else
      (bif Nat.beq pc 11 then some (.iload_n 1, 1, 1, 0, 0, mj_u) else none)))) else
   (bif Nat.blt pc 18 then (bif Nat.blt pc 14 then (bif Nat.blt pc 13 then (bif Nat.beq pc 12 then some (.iload_n 2, 1, 2, 0, 0, mj_u) else none) else
      (bif Nat.beq pc 13 then some (.iastore, 1, 0, 0, 0, mj_u) else none)) else
     (bif Nat.blt pc 15 then (bif Nat.beq pc 14 then some (.iload_n 3, 1, 3, 0, 0, mj_u) else none) else
      (bif Nat.beq pc 15 then some (.ifCond .lt 38, 3, 53, 0, 0, mj_u) else none))) else
    (bif Nat.blt pc 22 then (bif Nat.blt pc 19 then (bif Nat.beq pc 18 then some (.aload_n 0, 1, 0, 0, 0, mj_u) else none) else
      (bif Nat.beq pc 19 then some (.getfield 18, 3, 0, 2, 227, .null) else none)) else
     (bif Nat.blt pc 23 then (bif Nat.beq pc 22 then some (.iload_n 3, 1, 3, 0, 0, mj_u) else none) else
      (bif Nat.beq pc 23 then some (.iload_n 2, 1, 2, 0, 0, mj_u) else none))))) else
  (bif Nat.blt pc 40 then (bif Nat.blt pc 32 then (bif Nat.blt pc 30 then (bif Nat.blt pc 27 then (bif Nat.beq pc 24 then some (.invokevirtual 81, 3, 31, 0, 548, mj_u) else none) else
      (bif Nat.beq pc 27 then some (.ifCond .eq 16, 3, 43, 0, 0, mj_u) else none)) else
     (bif Nat.blt pc 31 then (bif Nat.beq pc 30 then some (.aload_n 0, 1, 0, 0, 0, mj_u) else none) else
      (bif Nat.beq pc 31 then some (.dup, 1, 0, 0, 0, mj_u) else none))) else
    (bif Nat.blt pc 36 then (bif Nat.blt pc 35 then (bif Nat.beq pc 32 then some (.getfield 39, 3, 0, 4, 229, .int 0) else none) else
      (bif Nat.beq pc 35 then some (.iconst 1, 1, 0, 0, 0, .int 1) else none)) else
     (bif Nat.blt pc 37 then (bif Nat.beq pc 36 then some (.isub, 1, 0, 0, 0, mj_u) else none) else
      (bif Nat.beq pc 37 then some (.putfield 39, 3, 0, 4, 229, .int 0) else none)))) else
   (bif Nat.blt pc 48 then (bif Nat.blt pc 44 then (bif Nat.blt pc 43 then (bif Nat.beq pc 40 then some (.goto 13, 3, 53, 0, 0, mj_u) else none) else
      (bif Nat.beq pc 43 then some (.aload_n 0, 1, 0, 0, 0, mj_u) else none)) else
     (bif Nat.blt pc 45 then (bif Nat.beq pc 44 then some (.dup, 1, 0, 0, 0, mj_u) else none) else
      (bif Nat.beq pc 45 then some (.getfield 42, 3, 0, 5, 230, .int 0) else none))) else
    (bif Nat.blt pc 50 then (bif Nat.blt pc 49 then (bif Nat.beq pc 48 then some (.iconst 1, 1, 0, 0, 0, .int 1) else none) else
      (bif Nat.beq pc 49 then some (.iadd, 1, 0, 0, 0, mj_u) else none)) else
     (bif Nat.blt pc 53 then (bif Nat.beq pc 50 then some (.putfield 42, 3, 0, 5, 230, .int 0) else none) else
      (bif Nat.beq pc 53 then some (.return_, 1, 0, 0, 0, mj_u) else none)))))
def m_Contours_tie : mj_M := (68, prog_2_method_8_code, 4, (Option.none : Option Jvm.ClassFile.FieldType), 0, 2, 547, 546, 18, 51, 54, k_Contours_tie)
/-- WatershedMap$Contours.told(I)I -/
def k_Contours_told : Nat → Option mj_I := fun pc =>
  bif Nat.blt pc 13 then (bif Nat.blt pc 5 then (bif Nat.blt pc 1 then (bif Nat.beq pc 0 then some (.iload_n 1, 1, 1, 0, 0, mj_u) else none) else
    (bif Nat.blt pc 4 then (bif Nat.beq pc 1 then some (.ifCond .ne 10, 3, 11, 0, 0, mj_u) else none) else
     (bif Nat.beq pc 4 then some (.aload_n 0, 1, 0, 0, 0, mj_u) else none))) else
   (bif Nat.blt pc 11 then (bif Nat.blt pc 8 then (bif Nat.beq pc 5 then some (.getfield 35, 3, 0, 3, 228, .int 0) else none) else
     (bif Nat.beq pc 8 then some (.goto 19, 3, 27, 0, 0, mj_u) else none)) else
    (bif Nat.blt pc 12 then (bif Nat.beq pc 11 then some (.iload_n 1, 1, 1, 0, 0, mj_u) else none) else
     (bif Nat.beq pc 12 then some (.iconst 1, 1, 0, 0, 0, .int 1) else none)))) else
  (bif Nat.blt pc 20 then (bif Nat.blt pc 16 then (bif Nat.beq pc 13 then some (.if_icmp .ne 10, 3, 23, 0, 0, mj_u) else none) else
    (bif Nat.blt pc 17 then (bif Nat.beq pc 16 then some (.aload_n 0, 1, 0, 0, 0, mj_u) else none) else
     (bif Nat.beq pc 17 then some (.getfield 39, 3, 0, 4, 229, .int 0) else none))) else
   (bif Nat.blt pc 24 then (bif Nat.blt pc 23 then (bif Nat.beq pc 20 then some (.goto 7, 3, 27, 0, 0, mj_u) else none) else
     (bif Nat.beq pc 23 then some (.aload_n 0, 1, 0, 0, 0, mj_u) else none)) else
    (bif Nat.blt pc 27 then (bif Nat.beq pc 24 then some (.getfield 42, 3, 0, 5, 230, .int 0) else none) else
     (bif Nat.beq pc 27 then some (.ireturn, 1, 0, 0, 0, mj_u) else none))))
def m_Contours_told : mj_M := (69, prog_2_method_9_code, 2, (Option.some Jvm.ClassFile.FieldType.int), 0, 1, 552, 550, 551, 51, 28, k_Contours_told)
/-- WatershedMap.digestOfFields(J)J -/
def k_W_digestOfFields : Nat → Option mj_I := fun pc =>
  bif Nat.blt pc 45 then (bif Nat.blt pc 23 then (bif Nat.blt pc 8 then (bif Nat.blt pc 3 then (bif Nat.blt pc 1 then (bif Nat.beq pc 0 then some (.lload_n 1, 1, 1, 0, 0, mj_u) else none) else
      (bif Nat.blt pc 2 then (bif Nat.beq pc 1 then some (.lstore_n 3, 1, 3, 0, 0, mj_u) else none) else
       (bif Nat.beq pc 2 then some (.iconst 0, 1, 0, 0, 0, .int 0) else none))) else
     (bif Nat.blt pc 5 then (bif Nat.beq pc 3 then some (.istore 5, 2, 5, 0, 0, mj_u) else none) else
      (bif Nat.blt pc 7 then (bif Nat.beq pc 5 then some (.iload 5, 2, 5, 0, 0, mj_u) else none) else
       (bif Nat.beq pc 7 then some (.aload_n 0, 1, 0, 0, 0, mj_u) else none)))) else
    (bif Nat.blt pc 17 then (bif Nat.blt pc 11 then (bif Nat.beq pc 8 then some (.getfield 10, 3, 8, 0, 296, .null) else none) else
      (bif Nat.blt pc 14 then (bif Nat.beq pc 11 then some (.getfield 69, 3, 4, 5, 105, .int 0) else none) else
       (bif Nat.beq pc 14 then some (.if_icmp .ge 79, 3, 93, 0, 0, mj_u) else none))) else
     (bif Nat.blt pc 21 then (bif Nat.blt pc 18 then (bif Nat.beq pc 17 then some (.lload_n 3, 1, 3, 0, 0, mj_u) else none) else
       (bif Nat.beq pc 18 then some (.ldc2_w 204, 3, 0, 0, 497, .long 31) else none)) else
      (bif Nat.blt pc 22 then (bif Nat.beq pc 21 then some (.lmul, 1, 0, 0, 0, mj_u) else none) else
       (bif Nat.beq pc 22 then some (.aload_n 0, 1, 0, 0, 0, mj_u) else none))))) else
   (bif Nat.blt pc 34 then (bif Nat.blt pc 31 then (bif Nat.blt pc 26 then (bif Nat.beq pc 23 then some (.getfield 10, 3, 8, 0, 296, .null) else none) else
      (bif Nat.blt pc 29 then (bif Nat.beq pc 26 then some (.getfield 122, 3, 4, 0, 92, .null) else none) else
       (bif Nat.beq pc 29 then some (.iload 5, 2, 5, 0, 0, mj_u) else none))) else
     (bif Nat.blt pc 32 then (bif Nat.beq pc 31 then some (.iaload, 1, 0, 0, 0, mj_u) else none) else
      (bif Nat.blt pc 33 then (bif Nat.beq pc 32 then some (.i2l, 1, 0, 0, 0, mj_u) else none) else
       (bif Nat.beq pc 33 then some (.ladd, 1, 0, 0, 0, mj_u) else none)))) else
    (bif Nat.blt pc 38 then (bif Nat.blt pc 35 then (bif Nat.beq pc 34 then some (.lstore_n 3, 1, 3, 0, 0, mj_u) else none) else
      (bif Nat.blt pc 36 then (bif Nat.beq pc 35 then some (.iconst 0, 1, 0, 0, 0, .int 0) else none) else
       (bif Nat.beq pc 36 then some (.istore 6, 2, 6, 0, 0, mj_u) else none))) else
     (bif Nat.blt pc 41 then (bif Nat.blt pc 40 then (bif Nat.beq pc 38 then some (.iload 6, 2, 6, 0, 0, mj_u) else none) else
       (bif Nat.beq pc 40 then some (.iconst 4, 1, 0, 0, 0, .int 4) else none)) else
      (bif Nat.blt pc 44 then (bif Nat.beq pc 41 then some (.if_icmp .gt 28, 3, 69, 0, 0, mj_u) else none) else
       (bif Nat.beq pc 44 then some (.lload_n 3, 1, 3, 0, 0, mj_u) else none)))))) else
  (bif Nat.blt pc 70 then (bif Nat.blt pc 57 then (bif Nat.blt pc 50 then (bif Nat.blt pc 48 then (bif Nat.beq pc 45 then some (.ldc2_w 204, 3, 0, 0, 497, .long 31) else none) else
      (bif Nat.blt pc 49 then (bif Nat.beq pc 48 then some (.lmul, 1, 0, 0, 0, mj_u) else none) else
       (bif Nat.beq pc 49 then some (.aload_n 0, 1, 0, 0, 0, mj_u) else none))) else
     (bif Nat.blt pc 53 then (bif Nat.beq pc 50 then some (.getfield 21, 3, 8, 1, 297, .null) else none) else
      (bif Nat.blt pc 55 then (bif Nat.beq pc 53 then some (.iload 5, 2, 5, 0, 0, mj_u) else none) else
       (bif Nat.beq pc 55 then some (.iload 6, 2, 6, 0, 0, mj_u) else none)))) else
    (bif Nat.blt pc 62 then (bif Nat.blt pc 60 then (bif Nat.beq pc 57 then some (.invokevirtual 125, 3, 71, 0, 557, mj_u) else none) else
      (bif Nat.blt pc 61 then (bif Nat.beq pc 60 then some (.i2l, 1, 0, 0, 0, mj_u) else none) else
       (bif Nat.beq pc 61 then some (.ladd, 1, 0, 0, 0, mj_u) else none))) else
     (bif Nat.blt pc 66 then (bif Nat.blt pc 63 then (bif Nat.beq pc 62 then some (.lstore_n 3, 1, 3, 0, 0, mj_u) else none) else
       (bif Nat.beq pc 63 then some (.iinc 6 1, 3, 6, 0, 0, .int 1) else none)) else
      (bif Nat.blt pc 69 then (bif Nat.beq pc 66 then some (.goto (-28), 3, 38, 0, 0, mj_u) else none) else
       (bif Nat.beq pc 69 then some (.lload_n 3, 1, 3, 0, 0, mj_u) else none))))) else
   (bif Nat.blt pc 84 then (bif Nat.blt pc 75 then (bif Nat.blt pc 73 then (bif Nat.beq pc 70 then some (.ldc2_w 204, 3, 0, 0, 497, .long 31) else none) else
      (bif Nat.blt pc 74 then (bif Nat.beq pc 73 then some (.lmul, 1, 0, 0, 0, mj_u) else none) else
       (bif Nat.beq pc 74 then some (.aload_n 0, 1, 0, 0, 0, mj_u) else none))) else
     (bif Nat.blt pc 81 then (bif Nat.blt pc 78 then (bif Nat.beq pc 75 then some (.getfield 28, 3, 8, 2, 298, .null) else none) else
       (bif Nat.beq pc 78 then some (.getfield 111, 3, 3, 1, 201, .null) else none)) else
      (bif Nat.blt pc 83 then (bif Nat.beq pc 81 then some (.iload 5, 2, 5, 0, 0, mj_u) else none) else
       (bif Nat.beq pc 83 then some (.iaload, 1, 0, 0, 0, mj_u) else none)))) else
    (bif Nat.blt pc 87 then (bif Nat.blt pc 85 then (bif Nat.beq pc 84 then some (.i2l, 1, 0, 0, 0, mj_u) else none) else
      (bif Nat.blt pc 86 then (bif Nat.beq pc 85 then some (.ladd, 1, 0, 0, 0, mj_u) else none) else
       (bif Nat.beq pc 86 then some (.lstore_n 3, 1, 3, 0, 0, mj_u) else none))) else
     (bif Nat.blt pc 93 then (bif Nat.blt pc 90 then (bif Nat.beq pc 87 then some (.iinc 5 1, 3, 5, 0, 0, .int 1) else none) else
       (bif Nat.beq pc 90 then some (.goto (-85), 3, 5, 0, 0, mj_u) else none)) else
      (bif Nat.blt pc 94 then (bif Nat.beq pc 93 then some (.lload_n 3, 1, 3, 0, 0, mj_u) else none) else
       (bif Nat.beq pc 94 then some (.lreturn, 1, 0, 0, 0, mj_u) else none))))))
def m_W_digestOfFields : mj_M := (70, prog_1_method_33_code, 7, (Option.some Jvm.ClassFile.FieldType.long), 8, 1, 556, 555, 19, 45, 95, k_W_digestOfFields)
/-- WatershedMap$Streams.told(II)I -/
def k_Streams_told : Nat → Option mj_I := fun pc =>
  bif Nat.blt pc 47 then (bif Nat.blt pc 38 then (bif Nat.blt pc 33 then (bif Nat.blt pc 1 then (bif Nat.beq pc 0 then some (.iload_n 2, 1, 2, 0, 0, mj_u) else none) else
     (bif Nat.blt pc 32 then (bif Nat.beq pc 1 then some (.tableswitch 59 0 3 #[31, 38, 45, 52], 31, 60, 0, 0, mj_u) else none) else
      (bif Nat.beq pc 32 then some (.aload_n 0, 1, 0, 0, 0, mj_u) else none))) else
    (bif Nat.blt pc 36 then (bif Nat.beq pc 33 then some (.getfield 9, 3, 6, 1, 128, .null) else none) else
     (bif Nat.blt pc 37 then (bif Nat.beq pc 36 then some (.iload_n 1, 1, 1, 0, 0, mj_u) else none) else
      (bif Nat.beq pc 37 then some (.iaload, 1, 0, 0, 0, mj_u) else none)))) else
   (bif Nat.blt pc 43 then (bif Nat.blt pc 39 then (bif Nat.beq pc 38 then some (.ireturn, 1, 0, 0, 0, mj_u) else none) else
     (bif Nat.blt pc 40 then (bif Nat.beq pc 39 then some (.aload_n 0, 1, 0, 0, 0, mj_u) else none) else
      (bif Nat.beq pc 40 then some (.getfield 18, 3, 6, 3, 131, .null) else none))) else
    (bif Nat.blt pc 45 then (bif Nat.blt pc 44 then (bif Nat.beq pc 43 then some (.iload_n 1, 1, 1, 0, 0, mj_u) else none) else
      (bif Nat.beq pc 44 then some (.iaload, 1, 0, 0, 0, mj_u) else none)) else
     (bif Nat.blt pc 46 then (bif Nat.beq pc 45 then some (.ireturn, 1, 0, 0, 0, mj_u) else none) else
      (bif Nat.beq pc 46 then some (.aload_n 0, 1, 0, 0, 0, mj_u) else none))))) else
  (bif Nat.blt pc 58 then (bif Nat.blt pc 52 then (bif Nat.blt pc 50 then (bif Nat.beq pc 47 then some (.getfield 21, 3, 6, 4, 133, .null) else none) else
     (bif Nat.blt pc 51 then (bif Nat.beq pc 50 then some (.iload_n 1, 1, 1, 0, 0, mj_u) else none) else
      (bif Nat.beq pc 51 then some (.iaload, 1, 0, 0, 0, mj_u) else none))) else
    (bif Nat.blt pc 54 then (bif Nat.blt pc 53 then (bif Nat.beq pc 52 then some (.ireturn, 1, 0, 0, 0, mj_u) else none) else
      (bif Nat.beq pc 53 then some (.aload_n 0, 1, 0, 0, 0, mj_u) else none)) else
     (bif Nat.blt pc 57 then (bif Nat.beq pc 54 then some (.getfield 27, 3, 6, 6, 136, .null) else none) else
      (bif Nat.beq pc 57 then some (.iload_n 1, 1, 1, 0, 0, mj_u) else none)))) else
   (bif Nat.blt pc 61 then (bif Nat.blt pc 59 then (bif Nat.beq pc 58 then some (.iaload, 1, 0, 0, 0, mj_u) else none) else
     (bif Nat.blt pc 60 then (bif Nat.beq pc 59 then some (.ireturn, 1, 0, 0, 0, mj_u) else none) else
      (bif Nat.beq pc 60 then some (.aload_n 0, 1, 0, 0, 0, mj_u) else none))) else
    (bif Nat.blt pc 65 then (bif Nat.blt pc 64 then (bif Nat.beq pc 61 then some (.getfield 24, 3, 6, 5, 135, .null) else none) else
      (bif Nat.beq pc 64 then some (.iload_n 1, 1, 1, 0, 0, mj_u) else none)) else
     (bif Nat.blt pc 66 then (bif Nat.beq pc 65 then some (.iaload, 1, 0, 0, 0, mj_u) else none) else
      (bif Nat.beq pc 66 then some (.ireturn, 1, 0, 0, 0, mj_u) else none)))))
def m_Streams_told : mj_M := (71, prog_8_method_8_code, 3, (Option.some Jvm.ClassFile.FieldType.int), 6, 2, 560, 558, 559, 47, 67, k_Streams_told)
/-- WatershedMap.reset(II)I -/
def k_W_reset : Nat → Option mj_I := fun pc =>
  bif Nat.blt pc 14 then (bif Nat.blt pc 7 then (bif Nat.blt pc 2 then (bif Nat.blt pc 1 then (bif Nat.beq pc 0 then some (.iload_n 1, 1, 1, 0, 0, mj_u) else none) else
     (bif Nat.beq pc 1 then some (.iconst 2, 1, 0, 0, 0, .int 2) else none)) else
    (bif Nat.blt pc 4 then (bif Nat.beq pc 2 then some (.bipush 16, 2, 0, 0, 0, .int 16) else none) else
     (bif Nat.beq pc 4 then some (.invokestatic 65, 3, 73, 0, 569, mj_u) else none))) else
   (bif Nat.blt pc 9 then (bif Nat.blt pc 8 then (bif Nat.beq pc 7 then some (.iload_n 2, 1, 2, 0, 0, mj_u) else none) else
     (bif Nat.beq pc 8 then some (.iconst 2, 1, 0, 0, 0, .int 2) else none)) else
    (bif Nat.blt pc 11 then (bif Nat.beq pc 9 then some (.bipush 16, 2, 0, 0, 0, .int 16) else none) else
     (bif Nat.beq pc 11 then some (.invokestatic 65, 3, 73, 0, 569, mj_u) else none)))) else
  (bif Nat.blt pc 20 then (bif Nat.blt pc 18 then (bif Nat.blt pc 15 then (bif Nat.beq pc 14 then some (.aload_n 0, 1, 0, 0, 0, mj_u) else none) else
     (bif Nat.beq pc 15 then some (.getfield 10, 3, 8, 0, 296, .null) else none)) else
    (bif Nat.blt pc 19 then (bif Nat.beq pc 18 then some (.iload_n 1, 1, 1, 0, 0, mj_u) else none) else
     (bif Nat.beq pc 19 then some (.iload_n 2, 1, 2, 0, 0, mj_u) else none))) else
   (bif Nat.blt pc 24 then (bif Nat.blt pc 23 then (bif Nat.beq pc 20 then some (.invokevirtual 61, 3, 9, 0, 273, mj_u) else none) else
     (bif Nat.beq pc 23 then some (.aload_n 0, 1, 0, 0, 0, mj_u) else none)) else
    (bif Nat.blt pc 27 then (bif Nat.beq pc 24 then some (.getfield 10, 3, 8, 0, 296, .null) else none) else
     (bif Nat.blt pc 30 then (bif Nat.beq pc 27 then some (.getfield 69, 3, 4, 5, 105, .int 0) else none) else
      (bif Nat.beq pc 30 then some (.ireturn, 1, 0, 0, 0, mj_u) else none)))))
def m_W_reset : mj_M := (72, prog_1_method_2_code, 3, (Option.some Jvm.ClassFile.FieldType.int), 8, 2, 568, 566, 567, 45, 31, k_W_reset)
/-- WatershedMap.checkRange(III)V static -/
def k_W_checkRange : Nat → Option mj_I := fun pc =>
  bif Nat.blt pc 10 then (bif Nat.blt pc 5 then (bif Nat.blt pc 1 then (bif Nat.beq pc 0 then some (.iload_n 0, 1, 0, 0, 0, mj_u) else none) else
    (bif Nat.blt pc 2 then (bif Nat.beq pc 1 then some (.iload_n 1, 1, 1, 0, 0, mj_u) else none) else
     (bif Nat.beq pc 2 then some (.if_icmp .lt 8, 3, 10, 0, 0, mj_u) else none))) else
   (bif Nat.blt pc 6 then (bif Nat.beq pc 5 then some (.iload_n 0, 1, 0, 0, 0, mj_u) else none) else
    (bif Nat.blt pc 7 then (bif Nat.beq pc 6 then some (.iload_n 2, 1, 2, 0, 0, mj_u) else none) else
     (bif Nat.beq pc 7 then some (.if_icmp .le 13, 3, 20, 0, 0, mj_u) else none)))) else
  (bif Nat.blt pc 16 then (bif Nat.blt pc 13 then (bif Nat.beq pc 10 then some (.new 169, 3, 1000, 0, 0, mj_u) else none) else
    (bif Nat.blt pc 14 then (bif Nat.beq pc 13 then some (.dup, 1, 0, 0, 0, mj_u) else none) else
     (bif Nat.beq pc 14 then some (.ldc 218, 2, 0, 0, 0, mj_u) else none))) else
   (bif Nat.blt pc 19 then (bif Nat.beq pc 16 then some (.invokespecial 173, 3, 1002, 0, 613, mj_u) else none) else
    (bif Nat.blt pc 20 then (bif Nat.beq pc 19 then some (.athrow, 1, 0, 0, 0, mj_u) else none) else
     (bif Nat.beq pc 20 then some (.return_, 1, 0, 0, 0, mj_u) else none))))
def m_W_checkRange : mj_M := (73, prog_1_method_35_code, 3, (Option.none : Option Jvm.ClassFile.FieldType), 8, 3, 571, 570, 0, 45, 21, k_W_checkRange)
/-- WatershedMap.set(III)I -/
def k_W_set : Nat → Option mj_I := fun pc =>
  bif Nat.blt pc 15 then (bif Nat.blt pc 6 then (bif Nat.blt pc 2 then (bif Nat.blt pc 1 then (bif Nat.beq pc 0 then some (.aload_n 0, 1, 0, 0, 0, mj_u) else none) else
     (bif Nat.beq pc 1 then some (.iload_n 1, 1, 1, 0, 0, mj_u) else none)) else
    (bif Nat.blt pc 3 then (bif Nat.beq pc 2 then some (.iload_n 2, 1, 2, 0, 0, mj_u) else none) else
     (bif Nat.beq pc 3 then some (.invokevirtual 72, 3, 75, 0, 647, mj_u) else none))) else
   (bif Nat.blt pc 8 then (bif Nat.blt pc 7 then (bif Nat.beq pc 6 then some (.iload_n 3, 1, 3, 0, 0, mj_u) else none) else
     (bif Nat.beq pc 7 then some (.iconst 0, 1, 0, 0, 0, .int 0) else none)) else
    (bif Nat.blt pc 11 then (bif Nat.beq pc 8 then some (.sipush 999, 3, 0, 0, 0, .int 999) else none) else
     (bif Nat.blt pc 14 then (bif Nat.beq pc 11 then some (.invokestatic 65, 3, 73, 0, 569, mj_u) else none) else
      (bif Nat.beq pc 14 then some (.aload_n 0, 1, 0, 0, 0, mj_u) else none))))) else
  (bif Nat.blt pc 23 then (bif Nat.blt pc 19 then (bif Nat.blt pc 18 then (bif Nat.beq pc 15 then some (.getfield 10, 3, 8, 0, 296, .null) else none) else
     (bif Nat.beq pc 18 then some (.aload_n 0, 1, 0, 0, 0, mj_u) else none)) else
    (bif Nat.blt pc 22 then (bif Nat.beq pc 19 then some (.getfield 10, 3, 8, 0, 296, .null) else none) else
     (bif Nat.beq pc 22 then some (.iload_n 1, 1, 1, 0, 0, mj_u) else none))) else
   (bif Nat.blt pc 27 then (bif Nat.blt pc 24 then (bif Nat.beq pc 23 then some (.iload_n 2, 1, 2, 0, 0, mj_u) else none) else
     (bif Nat.beq pc 24 then some (.invokevirtual 75, 3, 12, 0, 668, mj_u) else none)) else
    (bif Nat.blt pc 28 then (bif Nat.beq pc 27 then some (.iload_n 3, 1, 3, 0, 0, mj_u) else none) else
     (bif Nat.blt pc 31 then (bif Nat.beq pc 28 then some (.invokevirtual 79, 3, 17, 0, 669, mj_u) else none) else
      (bif Nat.beq pc 31 then some (.ireturn, 1, 0, 0, 0, mj_u) else none)))))
def m_W_set : mj_M := (74, prog_1_method_3_code, 4, (Option.some Jvm.ClassFile.FieldType.int), 8, 3, 646, 644, 645, 45, 32, k_W_set)
/-- WatershedMap.checkField(II)V -/
def k_W_checkField : Nat → Option mj_I := fun pc =>
  bif Nat.blt pc 12 then (bif Nat.blt pc 5 then (bif Nat.blt pc 1 then (bif Nat.beq pc 0 then some (.aload_n 0, 1, 0, 0, 0, mj_u) else none) else
    (bif Nat.blt pc 4 then (bif Nat.beq pc 1 then some (.getfield 10, 3, 8, 0, 296, .null) else none) else
     (bif Nat.beq pc 4 then some (.iload_n 1, 1, 1, 0, 0, mj_u) else none))) else
   (bif Nat.blt pc 6 then (bif Nat.beq pc 5 then some (.iload_n 2, 1, 2, 0, 0, mj_u) else none) else
    (bif Nat.blt pc 9 then (bif Nat.beq pc 6 then some (.invokevirtual 209, 3, 13, 0, 651, mj_u) else none) else
     (bif Nat.beq pc 9 then some (.ifCond .ne 13, 3, 22, 0, 0, mj_u) else none)))) else
  (bif Nat.blt pc 18 then (bif Nat.blt pc 15 then (bif Nat.beq pc 12 then some (.new 213, 3, 1000, 0, 0, mj_u) else none) else
    (bif Nat.blt pc 16 then (bif Nat.beq pc 15 then some (.dup, 1, 0, 0, 0, mj_u) else none) else
     (bif Nat.beq pc 16 then some (.ldc 215, 2, 0, 0, 0, mj_u) else none))) else
   (bif Nat.blt pc 21 then (bif Nat.beq pc 18 then some (.invokespecial 217, 3, 1002, 0, 662, mj_u) else none) else
    (bif Nat.blt pc 22 then (bif Nat.beq pc 21 then some (.athrow, 1, 0, 0, 0, mj_u) else none) else
     (bif Nat.beq pc 22 then some (.return_, 1, 0, 0, 0, mj_u) else none))))
def m_W_checkField : mj_M := (75, prog_1_method_34_code, 3, (Option.none : Option Jvm.ClassFile.FieldType), 8, 2, 650, 649, 21, 45, 23, k_W_checkField)
/-- WatershedMap.tilt(III)I -/
def k_W_tilt : Nat → Option mj_I := fun pc =>
  bif Nat.blt pc 21 then (bif Nat.blt pc 9 then (bif Nat.blt pc 3 then (bif Nat.blt pc 1 then (bif Nat.beq pc 0 then some (.iload_n 1, 1, 1, 0, 0, mj_u) else none) else
     (bif Nat.beq pc 1 then some (.bipush (-100), 2, 0, 0, 0, .int (-100)) else none)) else
    (bif Nat.blt pc 5 then (bif Nat.beq pc 3 then some (.bipush 100, 2, 0, 0, 0, .int 100) else none) else
     (bif Nat.blt pc 8 then (bif Nat.beq pc 5 then some (.invokestatic 65, 3, 73, 0, 569, mj_u) else none) else
      (bif Nat.beq pc 8 then some (.iload_n 2, 1, 2, 0, 0, mj_u) else none)))) else
   (bif Nat.blt pc 16 then (bif Nat.blt pc 11 then (bif Nat.beq pc 9 then some (.bipush (-100), 2, 0, 0, 0, .int (-100)) else none) else
     (bif Nat.blt pc 13 then (bif Nat.beq pc 11 then some (.bipush 100, 2, 0, 0, 0, .int 100) else none) else
      (bif Nat.beq pc 13 then some (.invokestatic 65, 3, 73, 0, 569, mj_u) else none))) else
    (bif Nat.blt pc 17 then (bif Nat.beq pc 16 then some (.iload_n 3, 1, 3, 0, 0, mj_u) else none) else
     (bif Nat.blt pc 19 then (bif Nat.beq pc 17 then some (.bipush (-100), 2, 0, 0, 0, .int (-100)) else none) else
      (bif Nat.beq pc 19 then some (.bipush 100, 2, 0, 0, 0, .int 100) else none))))) else
  (bif Nat.blt pc 30 then (bif Nat.blt pc 25 then (bif Nat.blt pc 24 then (bif Nat.beq pc 21 then some (.invokestatic 65, 3, 73, 0, 569, mj_u) else none) else
     (bif Nat.beq pc 24 then some (.aload_n 0, 1, 0, 0, 0, mj_u) else none)) else
    (bif Nat.blt pc 28 then (bif Nat.beq pc 25 then some (.getfield 10, 3, 8, 0, 296, .null) else none) else
     (bif Nat.blt pc 29 then (bif Nat.beq pc 28 then some (.iload_n 1, 1, 1, 0, 0, mj_u) else none) else
      (bif Nat.beq pc 29 then some (.iload_n 2, 1, 2, 0, 0, mj_u) else none)))) else
   (bif Nat.blt pc 35 then (bif Nat.blt pc 31 then (bif Nat.beq pc 30 then some (.iload_n 3, 1, 3, 0, 0, mj_u) else none) else
     (bif Nat.blt pc 34 then (bif Nat.beq pc 31 then some (.invokevirtual 82, 3, 77, 0, 677, mj_u) else none) else
      (bif Nat.beq pc 34 then some (.aload_n 0, 1, 0, 0, 0, mj_u) else none))) else
    (bif Nat.blt pc 38 then (bif Nat.beq pc 35 then some (.getfield 10, 3, 8, 0, 296, .null) else none) else
     (bif Nat.blt pc 41 then (bif Nat.beq pc 38 then some (.invokevirtual 85, 3, 60, 0, 681, mj_u) else none) else
      (bif Nat.beq pc 41 then some (.ireturn, 1, 0, 0, 0, mj_u) else none)))))
def m_W_tilt : mj_M := (76, prog_1_method_4_code, 4, (Option.some Jvm.ClassFile.FieldType.int), 8, 3, 676, 674, 675, 45, 42, k_W_tilt)
/-- WatershedMap$Land.slope(III)V -/
def k_Land_slope : Nat → Option mj_I := fun pc =>
  bif Nat.blt pc 52 then (bif Nat.blt pc 27 then (bif Nat.blt pc 13 then (bif Nat.blt pc 5 then (bif Nat.blt pc 1 then (bif Nat.beq pc 0 then some (.iconst 0, 1, 0, 0, 0, .int 0) else none) else
      (bif Nat.blt pc 3 then (bif Nat.beq pc 1 then some (.istore 4, 2, 4, 0, 0, mj_u) else none) else
       (bif Nat.beq pc 3 then some (.iload 4, 2, 4, 0, 0, mj_u) else none))) else
     (bif Nat.blt pc 9 then (bif Nat.blt pc 6 then (bif Nat.beq pc 5 then some (.aload_n 0, 1, 0, 0, 0, mj_u) else none) else
       (bif Nat.beq pc 6 then some (.getfield 25, 3, 4, 4, 99, .int 0) else none)) else
      (bif Nat.blt pc 12 then (bif Nat.beq pc 9 then some (.if_icmp .ge 90, 3, 99, 0, 0, mj_u) else none) else
       (bif Nat.beq pc 12 then some (.iconst 0, 1, 0, 0, 0, .int 0) else none)))) else
    (bif Nat.blt pc 18 then (bif Nat.blt pc 15 then (bif Nat.beq pc 13 then some (.istore 5, 2, 5, 0, 0, mj_u) else none) else
      (bif Nat.blt pc 17 then (bif Nat.beq pc 15 then some (.iload 5, 2, 5, 0, 0, mj_u) else none) else
       (bif Nat.beq pc 17 then some (.aload_n 0, 1, 0, 0, 0, mj_u) else none))) else
     (bif Nat.blt pc 24 then (bif Nat.blt pc 21 then (bif Nat.beq pc 18 then some (.getfield 21, 3, 4, 3, 95, .int 0) else none) else
       (bif Nat.beq pc 21 then some (.if_icmp .ge 72, 3, 93, 0, 0, mj_u) else none)) else
      (bif Nat.blt pc 25 then (bif Nat.beq pc 24 then some (.aload_n 0, 1, 0, 0, 0, mj_u) else none) else
       (bif Nat.beq pc 25 then some (.iload 5, 2, 5, 0, 0, mj_u) else none))))) else
   (bif Nat.blt pc 41 then (bif Nat.blt pc 34 then (bif Nat.blt pc 29 then (bif Nat.beq pc 27 then some (.iload 4, 2, 4, 0, 0, mj_u) else none) else
      (bif Nat.blt pc 32 then (bif Nat.beq pc 29 then some (.invokevirtual 47, 3, 12, 0, 288, mj_u) else none) else
       (bif Nat.beq pc 32 then some (.istore 6, 2, 6, 0, 0, mj_u) else none))) else
     (bif Nat.blt pc 38 then (bif Nat.blt pc 36 then (bif Nat.beq pc 34 then some (.iload 5, 2, 5, 0, 0, mj_u) else none) else
       (bif Nat.beq pc 36 then some (.bipush 7, 2, 0, 0, 0, .int 7) else none)) else
      (bif Nat.blt pc 39 then (bif Nat.beq pc 38 then some (.imul, 1, 0, 0, 0, mj_u) else none) else
       (bif Nat.beq pc 39 then some (.iload 4, 2, 4, 0, 0, mj_u) else none)))) else
    (bif Nat.blt pc 47 then (bif Nat.blt pc 44 then (bif Nat.blt pc 43 then (bif Nat.beq pc 41 then some (.bipush 13, 2, 0, 0, 0, .int 13) else none) else
       (bif Nat.beq pc 43 then some (.imul, 1, 0, 0, 0, mj_u) else none)) else
      (bif Nat.blt pc 45 then (bif Nat.beq pc 44 then some (.iadd, 1, 0, 0, 0, mj_u) else none) else
       (bif Nat.beq pc 45 then some (.iload 5, 2, 5, 0, 0, mj_u) else none))) else
     (bif Nat.blt pc 50 then (bif Nat.blt pc 49 then (bif Nat.beq pc 47 then some (.iload 4, 2, 4, 0, 0, mj_u) else none) else
       (bif Nat.beq pc 49 then some (.imul, 1, 0, 0, 0, mj_u) else none)) else
      (bif Nat.blt pc 51 then (bif Nat.beq pc 50 then some (.iconst 5, 1, 0, 0, 0, .int 5) else none) else
       (bif Nat.beq pc 51 then some (.imul, 1, 0, 0, 0, mj_u) else none)))))) else
  (bif Nat.blt pc 73 then (bif Nat.blt pc 62 then (bif Nat.blt pc 56 then (bif Nat.blt pc 53 then (bif Nat.beq pc 52 then some (.iadd, 1, 0, 0, 0, mj_u) else none) else
      (bif Nat.blt pc 55 then (bif Nat.beq pc 53 then some (.bipush 17, 2, 0, 0, 0, .int 17) else none) else
       (bif Nat.beq pc 55 then some (.irem, 1, 0, 0, 0, mj_u) else none))) else
     (bif Nat.blt pc 59 then (bif Nat.blt pc 58 then (bif Nat.beq pc 56 then some (.istore 7, 2, 7, 0, 0, mj_u) else none) else
       (bif Nat.beq pc 58 then some (.aload_n 0, 1, 0, 0, 0, mj_u) else none)) else
      (bif Nat.blt pc 61 then (bif Nat.beq pc 59 then some (.iload 6, 2, 6, 0, 0, mj_u) else none) else
       (bif Nat.beq pc 61 then some (.aload_n 0, 1, 0, 0, 0, mj_u) else none)))) else
    (bif Nat.blt pc 68 then (bif Nat.blt pc 65 then (bif Nat.beq pc 62 then some (.getfield 9, 3, 4, 0, 87, .null) else none) else
      (bif Nat.blt pc 67 then (bif Nat.beq pc 65 then some (.iload 6, 2, 6, 0, 0, mj_u) else none) else
       (bif Nat.beq pc 67 then some (.iaload, 1, 0, 0, 0, mj_u) else none))) else
     (bif Nat.blt pc 71 then (bif Nat.blt pc 69 then (bif Nat.beq pc 68 then some (.iload_n 1, 1, 1, 0, 0, mj_u) else none) else
       (bif Nat.beq pc 69 then some (.iload 5, 2, 5, 0, 0, mj_u) else none)) else
      (bif Nat.blt pc 72 then (bif Nat.beq pc 71 then some (.imul, 1, 0, 0, 0, mj_u) else none) else
       (bif Nat.beq pc 72 then some (.iadd, 1, 0, 0, 0, mj_u) else none))))) else
   (bif Nat.blt pc 82 then (bif Nat.blt pc 77 then (bif Nat.blt pc 74 then (bif Nat.beq pc 73 then some (.iload_n 2, 1, 2, 0, 0, mj_u) else none) else
      (bif Nat.blt pc 76 then (bif Nat.beq pc 74 then some (.iload 4, 2, 4, 0, 0, mj_u) else none) else
       (bif Nat.beq pc 76 then some (.imul, 1, 0, 0, 0, mj_u) else none))) else
     (bif Nat.blt pc 80 then (bif Nat.blt pc 78 then (bif Nat.beq pc 77 then some (.iadd, 1, 0, 0, 0, mj_u) else none) else
       (bif Nat.beq pc 78 then some (.iload 7, 2, 7, 0, 0, mj_u) else none)) else
      (bif Nat.blt pc 81 then (bif Nat.beq pc 80 then some (.iload_n 3, 1, 3, 0, 0, mj_u) else none) else
       (bif Nat.beq pc 81 then some (.imul, 1, 0, 0, 0, mj_u) else none)))) else
    (bif Nat.blt pc 90 then (bif Nat.blt pc 86 then (bif Nat.blt pc 83 then (bif Nat.beq pc 82 then some (.iadd, 1, 0, 0, 0, mj_u) else none) else
       (bif Nat.beq pc 83 then some (.invokevirtual 80, 3, 17, 0, 333, mj_u) else none)) else
      (bif Nat.blt pc 87 then (bif Nat.beq pc 86 then some (.pop, 1, 0, 0, 0, mj_u) else none) else
       (bif Nat.beq pc 87 then some (.iinc 5 1, 3, 5, 0, 0, .int 1) else none))) else
     (bif Nat.blt pc 96 then (bif Nat.blt pc 93 then (bif Nat.beq pc 90 then some (.goto (-75), 3, 15, 0, 0, mj_u) else none) else
       (bif Nat.beq pc 93 then some (.iinc 4 1, 3, 4, 0, 0, .int 1) else none)) else
      (bif Nat.blt pc 99 then (bif Nat.beq pc 96 then some (.goto (-93), 3, 3, 0, 0, mj_u) else none) else
       (bif Nat.beq pc 99 then some (.return_, 1, 0, 0, 0, mj_u) else none))))))
def m_Land_slope : mj_M := (77, prog_6_method_15_code, 8, (Option.none : Option Jvm.ClassFile.FieldType), 4, 3, 680, 678, 679, 46, 100, k_Land_slope)
/-- WatershedMap.hill(IIII)I -/
def k_W_hill : Nat → Option mj_I := fun pc =>
  bif Nat.blt pc 18 then (bif Nat.blt pc 7 then (bif Nat.blt pc 2 then (bif Nat.blt pc 1 then (bif Nat.beq pc 0 then some (.aload_n 0, 1, 0, 0, 0, mj_u) else none) else
     (bif Nat.beq pc 1 then some (.iload_n 1, 1, 1, 0, 0, mj_u) else none)) else
    (bif Nat.blt pc 3 then (bif Nat.beq pc 2 then some (.iload_n 2, 1, 2, 0, 0, mj_u) else none) else
     (bif Nat.blt pc 6 then (bif Nat.beq pc 3 then some (.invokevirtual 72, 3, 75, 0, 647, mj_u) else none) else
      (bif Nat.beq pc 6 then some (.iload_n 3, 1, 3, 0, 0, mj_u) else none)))) else
   (bif Nat.blt pc 10 then (bif Nat.blt pc 8 then (bif Nat.beq pc 7 then some (.iconst 0, 1, 0, 0, 0, .int 0) else none) else
     (bif Nat.beq pc 8 then some (.bipush 8, 2, 0, 0, 0, .int 8) else none)) else
    (bif Nat.blt pc 13 then (bif Nat.beq pc 10 then some (.invokestatic 65, 3, 73, 0, 569, mj_u) else none) else
     (bif Nat.blt pc 15 then (bif Nat.beq pc 13 then some (.iload 4, 2, 4, 0, 0, mj_u) else none) else
      (bif Nat.beq pc 15 then some (.sipush (-500), 3, 0, 0, 0, .int (-500)) else none))))) else
  (bif Nat.blt pc 29 then (bif Nat.blt pc 24 then (bif Nat.blt pc 21 then (bif Nat.beq pc 18 then some (.sipush 500, 3, 0, 0, 0, .int 500) else none) else
     (bif Nat.beq pc 21 then some (.invokestatic 65, 3, 73, 0, 569, mj_u) else none)) else
    (bif Nat.blt pc 25 then (bif Nat.beq pc 24 then some (.aload_n 0, 1, 0, 0, 0, mj_u) else none) else
     (bif Nat.blt pc 28 then (bif Nat.beq pc 25 then some (.getfield 10, 3, 8, 0, 296, .null) else none) else
      (bif Nat.beq pc 28 then some (.iload_n 1, 1, 1, 0, 0, mj_u) else none)))) else
   (bif Nat.blt pc 31 then (bif Nat.blt pc 30 then (bif Nat.beq pc 29 then some (.iload_n 2, 1, 2, 0, 0, mj_u) else none) else
     (bif Nat.beq pc 30 then some (.iload_n 3, 1, 3, 0, 0, mj_u) else none)) else
    (bif Nat.blt pc 33 then (bif Nat.beq pc 31 then some (.iload 4, 2, 4, 0, 0, mj_u) else none) else
     (bif Nat.blt pc 36 then (bif Nat.beq pc 33 then some (.invokevirtual 89, 3, 79, 0, 689, mj_u) else none) else
      (bif Nat.beq pc 36 then some (.ireturn, 1, 0, 0, 0, mj_u) else none)))))
def m_W_hill : mj_M := (78, prog_1_method_5_code, 5, (Option.some Jvm.ClassFile.FieldType.int), 8, 4, 688, 686, 687, 45, 37, k_W_hill)
/-- WatershedMap$Land.raise(IIII)I -/
def k_Land_raise : Nat → Option mj_I := fun pc =>
  bif Nat.blt pc 63 then (bif Nat.blt pc 34 then (bif Nat.blt pc 13 then (bif Nat.blt pc 5 then (bif Nat.blt pc 3 then (bif Nat.blt pc 1 then (bif Nat.beq pc 0 then some (.iconst 0, 1, 0, 0, 0, .int 0) else none) else
       (bif Nat.beq pc 1 then some (.istore 5, 2, 5, 0, 0, mj_u) else none)) else
      (bif Nat.blt pc 4 then (bif Nat.beq pc 3 then some (.iload_n 3, 1, 3, 0, 0, mj_u) else none) else
       (bif Nat.beq pc 4 then some (.iload_n 3, 1, 3, 0, 0, mj_u) else none))) else
     (bif Nat.blt pc 8 then (bif Nat.blt pc 6 then (bif Nat.beq pc 5 then some (.imul, 1, 0, 0, 0, mj_u) else none) else
       (bif Nat.beq pc 6 then some (.istore 6, 2, 6, 0, 0, mj_u) else none)) else
      (bif Nat.blt pc 9 then (bif Nat.beq pc 8 then some (.iconst 0, 1, 0, 0, 0, .int 0) else none) else
       (bif Nat.blt pc 11 then (bif Nat.beq pc 9 then some (.istore 7, 2, 7, 0, 0, mj_u) else none) else
        (bif Nat.beq pc 11 then some (.iload 7, 2, 7, 0, 0, mj_u) else none))))) else
    (bif Nat.blt pc 23 then (bif Nat.blt pc 17 then (bif Nat.blt pc 14 then (bif Nat.beq pc 13 then some (.aload_n 0, 1, 0, 0, 0, mj_u) else none) else
       (bif Nat.beq pc 14 then some (.getfield 25, 3, 4, 4, 99, .int 0) else none)) else
      (bif Nat.blt pc 20 then (bif Nat.beq pc 17 then some (.if_icmp .ge 116, 3, 133, 0, 0, mj_u) else none) else
       (bif Nat.blt pc 21 then (bif Nat.beq pc 20 then some (.iconst 0, 1, 0, 0, 0, .int 0) else none) else
        (bif Nat.beq pc 21 then some (.istore 8, 2, 8, 0, 0, mj_u) else none)))) else
     (bif Nat.blt pc 26 then (bif Nat.blt pc 25 then (bif Nat.beq pc 23 then some (.iload 8, 2, 8, 0, 0, mj_u) else none) else
       (bif Nat.beq pc 25 then some (.aload_n 0, 1, 0, 0, 0, mj_u) else none)) else
      (bif Nat.blt pc 29 then (bif Nat.beq pc 26 then some (.getfield 21, 3, 4, 3, 95, .int 0) else none) else
       (bif Nat.blt pc 32 then (bif Nat.beq pc 29 then some (.if_icmp .ge 98, 3, 127, 0, 0, mj_u) else none) else
        (bif Nat.beq pc 32 then some (.iload 8, 2, 8, 0, 0, mj_u) else none)))))) else
   (bif Nat.blt pc 47 then (bif Nat.blt pc 40 then (bif Nat.blt pc 36 then (bif Nat.blt pc 35 then (bif Nat.beq pc 34 then some (.iload_n 1, 1, 1, 0, 0, mj_u) else none) else
       (bif Nat.beq pc 35 then some (.isub, 1, 0, 0, 0, mj_u) else none)) else
      (bif Nat.blt pc 38 then (bif Nat.beq pc 36 then some (.iload 8, 2, 8, 0, 0, mj_u) else none) else
       (bif Nat.blt pc 39 then (bif Nat.beq pc 38 then some (.iload_n 1, 1, 1, 0, 0, mj_u) else none) else
        (bif Nat.beq pc 39 then some (.isub, 1, 0, 0, 0, mj_u) else none)))) else
     (bif Nat.blt pc 43 then (bif Nat.blt pc 41 then (bif Nat.beq pc 40 then some (.imul, 1, 0, 0, 0, mj_u) else none) else
       (bif Nat.beq pc 41 then some (.iload 7, 2, 7, 0, 0, mj_u) else none)) else
      (bif Nat.blt pc 44 then (bif Nat.beq pc 43 then some (.iload_n 2, 1, 2, 0, 0, mj_u) else none) else
       (bif Nat.blt pc 45 then (bif Nat.beq pc 44 then some (.isub, 1, 0, 0, 0, mj_u) else none) else
        (bif Nat.beq pc 45 then some (.iload 7, 2, 7, 0, 0, mj_u) else none))))) else
    (bif Nat.blt pc 53 then (bif Nat.blt pc 49 then (bif Nat.blt pc 48 then (bif Nat.beq pc 47 then some (.iload_n 2, 1, 2, 0, 0, mj_u) else none) else
       (bif Nat.beq pc 48 then some (.isub, 1, 0, 0, 0, mj_u) else none)) else
      (bif Nat.blt pc 50 then (bif Nat.beq pc 49 then some (.imul, 1, 0, 0, 0, mj_u) else none) else
       (bif Nat.blt pc 51 then (bif Nat.beq pc 50 then some (.iadd, 1, 0, 0, 0, mj_u) else none) else
        (bif Nat.beq pc 51 then some (.istore 9, 2, 9, 0, 0, mj_u) else none)))) else
     (bif Nat.blt pc 57 then (bif Nat.blt pc 55 then (bif Nat.beq pc 53 then some (.iload 9, 2, 9, 0, 0, mj_u) else none) else
       (bif Nat.beq pc 55 then some (.iload 6, 2, 6, 0, 0, mj_u) else none)) else
      (bif Nat.blt pc 60 then (bif Nat.beq pc 57 then some (.if_icmp .gt 64, 3, 121, 0, 0, mj_u) else none) else
       (bif Nat.blt pc 61 then (bif Nat.beq pc 60 then some (.aload_n 0, 1, 0, 0, 0, mj_u) else none) else
        (bif Nat.beq pc 61 then some (.iload 8, 2, 8, 0, 0, mj_u) else none))))))) else
  (bif Nat.blt pc 94 then (bif Nat.blt pc 80 then (bif Nat.blt pc 71 then (bif Nat.blt pc 68 then (bif Nat.blt pc 65 then (bif Nat.beq pc 63 then some (.iload 7, 2, 7, 0, 0, mj_u) else none) else
       (bif Nat.beq pc 65 then some (.invokevirtual 47, 3, 12, 0, 288, mj_u) else none)) else
      (bif Nat.blt pc 70 then (bif Nat.beq pc 68 then some (.istore 10, 2, 10, 0, 0, mj_u) else none) else
       (bif Nat.beq pc 70 then some (.aload_n 0, 1, 0, 0, 0, mj_u) else none))) else
     (bif Nat.blt pc 74 then (bif Nat.blt pc 73 then (bif Nat.beq pc 71 then some (.iload 10, 2, 10, 0, 0, mj_u) else none) else
       (bif Nat.beq pc 73 then some (.aload_n 0, 1, 0, 0, 0, mj_u) else none)) else
      (bif Nat.blt pc 77 then (bif Nat.beq pc 74 then some (.getfield 9, 3, 4, 0, 87, .null) else none) else
       (bif Nat.blt pc 79 then (bif Nat.beq pc 77 then some (.iload 10, 2, 10, 0, 0, mj_u) else none) else
        (bif Nat.beq pc 79 then some (.iaload, 1, 0, 0, 0, mj_u) else none))))) else
    (bif Nat.blt pc 88 then (bif Nat.blt pc 83 then (bif Nat.blt pc 82 then (bif Nat.beq pc 80 then some (.iload 4, 2, 4, 0, 0, mj_u) else none) else
       (bif Nat.beq pc 82 then some (.iadd, 1, 0, 0, 0, mj_u) else none)) else
      (bif Nat.blt pc 85 then (bif Nat.beq pc 83 then some (.iload 4, 2, 4, 0, 0, mj_u) else none) else
       (bif Nat.blt pc 87 then (bif Nat.beq pc 85 then some (.iload 9, 2, 9, 0, 0, mj_u) else none) else
        (bif Nat.beq pc 87 then some (.imul, 1, 0, 0, 0, mj_u) else none)))) else
     (bif Nat.blt pc 91 then (bif Nat.blt pc 90 then (bif Nat.beq pc 88 then some (.iload 6, 2, 6, 0, 0, mj_u) else none) else
       (bif Nat.beq pc 90 then some (.iconst 1, 1, 0, 0, 0, .int 1) else none)) else
      (bif Nat.blt pc 92 then (bif Nat.beq pc 91 then some (.iadd, 1, 0, 0, 0, mj_u) else none) else
       (bif Nat.blt pc 93 then (bif Nat.beq pc 92 then some (.idiv, 1, 0, 0, 0, mj_u) else none) else
        (bif Nat.beq pc 93 then some (.isub, 1, 0, 0, 0, mj_u) else none)))))) else
   (bif Nat.blt pc 114 then (bif Nat.blt pc 104 then (bif Nat.blt pc 99 then (bif Nat.blt pc 97 then (bif Nat.beq pc 94 then some (.invokevirtual 80, 3, 17, 0, 333, mj_u) else none) else
       (bif Nat.beq pc 97 then some (.istore 11, 2, 11, 0, 0, mj_u) else none)) else
      (bif Nat.blt pc 101 then (bif Nat.beq pc 99 then some (.iload 5, 2, 5, 0, 0, mj_u) else none) else
       (bif Nat.blt pc 103 then (bif Nat.beq pc 101 then some (.iload 11, 2, 11, 0, 0, mj_u) else none) else
        (bif Nat.beq pc 103 then some (.aload_n 0, 1, 0, 0, 0, mj_u) else none)))) else
     (bif Nat.blt pc 109 then (bif Nat.blt pc 107 then (bif Nat.beq pc 104 then some (.getfield 9, 3, 4, 0, 87, .null) else none) else
       (bif Nat.beq pc 107 then some (.iload 10, 2, 10, 0, 0, mj_u) else none)) else
      (bif Nat.blt pc 110 then (bif Nat.beq pc 109 then some (.iaload, 1, 0, 0, 0, mj_u) else none) else
       (bif Nat.blt pc 113 then (bif Nat.beq pc 110 then some (.if_icmp .eq 7, 3, 117, 0, 0, mj_u) else none) else
        (bif Nat.beq pc 113 then some (.iconst 1, 1, 0, 0, 0, .int 1) else none))))) else
    (bif Nat.blt pc 124 then (bif Nat.blt pc 118 then (bif Nat.blt pc 117 then (bif Nat.beq pc 114 then some (.goto 4, 3, 118, 0, 0, mj_u) else none) else
       (bif Nat.beq pc 117 then some (.iconst 0, 1, 0, 0, 0, .int 0) else none)) else
      (bif Nat.blt pc 119 then (bif Nat.beq pc 118 then some (.iadd, 1, 0, 0, 0, mj_u) else none) else
       (bif Nat.blt pc 121 then (bif Nat.beq pc 119 then some (.istore 5, 2, 5, 0, 0, mj_u) else none) else
        (bif Nat.beq pc 121 then some (.iinc 8 1, 3, 8, 0, 0, .int 1) else none)))) else
     (bif Nat.blt pc 130 then (bif Nat.blt pc 127 then (bif Nat.beq pc 124 then some (.goto (-101), 3, 23, 0, 0, mj_u) else none) else
       (bif Nat.beq pc 127 then some (.iinc 7 1, 3, 7, 0, 0, .int 1) else none)) else
      (bif Nat.blt pc 133 then (bif Nat.beq pc 130 then some (.goto (-119), 3, 11, 0, 0, mj_u) else none) else
       (bif Nat.blt pc 135 then (bif Nat.beq pc 133 then some (.iload 5, 2, 5, 0, 0, mj_u) else none) else
        (bif Nat.beq pc 135 then some (.ireturn, 1, 0, 0, 0, mj_u) else none)))))))
def m_Land_raise : mj_M := (79, prog_6_method_16_code, 12, (Option.some Jvm.ClassFile.FieldType.int), 4, 4, 692, 690, 691, 46, 136, k_Land_raise)
/-- WatershedMap.dig(IIIII)I -/
def k_W_dig : Nat → Option mj_I := fun pc =>
  bif Nat.blt pc 16 then (bif Nat.blt pc 7 then (bif Nat.blt pc 2 then (bif Nat.blt pc 1 then (bif Nat.beq pc 0 then some (.aload_n 0, 1, 0, 0, 0, mj_u) else none) else
     (bif Nat.beq pc 1 then some (.iload_n 1, 1, 1, 0, 0, mj_u) else none)) else
    (bif Nat.blt pc 3 then (bif Nat.beq pc 2 then some (.iload_n 2, 1, 2, 0, 0, mj_u) else none) else
     (bif Nat.blt pc 6 then (bif Nat.beq pc 3 then some (.invokevirtual 72, 3, 75, 0, 647, mj_u) else none) else
      (bif Nat.beq pc 6 then some (.aload_n 0, 1, 0, 0, 0, mj_u) else none)))) else
   (bif Nat.blt pc 10 then (bif Nat.blt pc 8 then (bif Nat.beq pc 7 then some (.iload_n 3, 1, 3, 0, 0, mj_u) else none) else
     (bif Nat.beq pc 8 then some (.iload 4, 2, 4, 0, 0, mj_u) else none)) else
    (bif Nat.blt pc 13 then (bif Nat.beq pc 10 then some (.invokevirtual 72, 3, 75, 0, 647, mj_u) else none) else
     (bif Nat.blt pc 15 then (bif Nat.beq pc 13 then some (.iload 5, 2, 5, 0, 0, mj_u) else none) else
      (bif Nat.beq pc 15 then some (.iconst 0, 1, 0, 0, 0, .int 0) else none))))) else
  (bif Nat.blt pc 27 then (bif Nat.blt pc 22 then (bif Nat.blt pc 19 then (bif Nat.beq pc 16 then some (.sipush 999, 3, 0, 0, 0, .int 999) else none) else
     (bif Nat.beq pc 19 then some (.invokestatic 65, 3, 73, 0, 569, mj_u) else none)) else
    (bif Nat.blt pc 23 then (bif Nat.beq pc 22 then some (.aload_n 0, 1, 0, 0, 0, mj_u) else none) else
     (bif Nat.blt pc 26 then (bif Nat.beq pc 23 then some (.getfield 10, 3, 8, 0, 296, .null) else none) else
      (bif Nat.beq pc 26 then some (.iload_n 1, 1, 1, 0, 0, mj_u) else none)))) else
   (bif Nat.blt pc 31 then (bif Nat.blt pc 28 then (bif Nat.beq pc 27 then some (.iload_n 2, 1, 2, 0, 0, mj_u) else none) else
     (bif Nat.blt pc 29 then (bif Nat.beq pc 28 then some (.iload_n 3, 1, 3, 0, 0, mj_u) else none) else
      (bif Nat.beq pc 29 then some (.iload 4, 2, 4, 0, 0, mj_u) else none))) else
    (bif Nat.blt pc 33 then (bif Nat.beq pc 31 then some (.iload 5, 2, 5, 0, 0, mj_u) else none) else
     (bif Nat.blt pc 36 then (bif Nat.beq pc 33 then some (.invokevirtual 93, 3, 81, 0, 700, mj_u) else none) else
      (bif Nat.beq pc 36 then some (.ireturn, 1, 0, 0, 0, mj_u) else none)))))
def m_W_dig : mj_M := (80, prog_1_method_6_code, 6, (Option.some Jvm.ClassFile.FieldType.int), 8, 5, 699, 697, 698, 45, 37, k_W_dig)
/-- WatershedMap$Land.cutDown(IIIII)I -/
def k_Land_cutDown : Nat → Option mj_I := fun pc =>
  bif Nat.blt pc 36 then (bif Nat.blt pc 16 then (bif Nat.blt pc 6 then (bif Nat.blt pc 3 then (bif Nat.blt pc 1 then (bif Nat.beq pc 0 then some (.iconst 0, 1, 0, 0, 0, .int 0) else none) else
      (bif Nat.beq pc 1 then some (.istore 6, 2, 6, 0, 0, mj_u) else none)) else
     (bif Nat.blt pc 4 then (bif Nat.beq pc 3 then some (.iload_n 1, 1, 1, 0, 0, mj_u) else none) else
      (bif Nat.blt pc 5 then (bif Nat.beq pc 4 then some (.iload_n 2, 1, 2, 0, 0, mj_u) else none) else
       (bif Nat.beq pc 5 then some (.iload_n 3, 1, 3, 0, 0, mj_u) else none)))) else
    (bif Nat.blt pc 11 then (bif Nat.blt pc 8 then (bif Nat.beq pc 6 then some (.iload 4, 2, 4, 0, 0, mj_u) else none) else
      (bif Nat.beq pc 8 then some (.invokestatic 83, 3, 82, 0, 704, mj_u) else none)) else
     (bif Nat.blt pc 13 then (bif Nat.beq pc 11 then some (.istore 7, 2, 7, 0, 0, mj_u) else none) else
      (bif Nat.blt pc 14 then (bif Nat.beq pc 13 then some (.iconst 0, 1, 0, 0, 0, .int 0) else none) else
       (bif Nat.beq pc 14 then some (.istore 8, 2, 8, 0, 0, mj_u) else none))))) else
   (bif Nat.blt pc 25 then (bif Nat.blt pc 20 then (bif Nat.blt pc 18 then (bif Nat.beq pc 16 then some (.iload 8, 2, 8, 0, 0, mj_u) else none) else
      (bif Nat.beq pc 18 then some (.iload 7, 2, 7, 0, 0, mj_u) else none)) else
     (bif Nat.blt pc 23 then (bif Nat.beq pc 20 then some (.if_icmp .gt 58, 3, 78, 0, 0, mj_u) else none) else
      (bif Nat.blt pc 24 then (bif Nat.beq pc 23 then some (.aload_n 0, 1, 0, 0, 0, mj_u) else none) else
       (bif Nat.beq pc 24 then some (.iload_n 1, 1, 1, 0, 0, mj_u) else none)))) else
    (bif Nat.blt pc 30 then (bif Nat.blt pc 26 then (bif Nat.beq pc 25 then some (.iload_n 3, 1, 3, 0, 0, mj_u) else none) else
      (bif Nat.blt pc 28 then (bif Nat.beq pc 26 then some (.iload 8, 2, 8, 0, 0, mj_u) else none) else
       (bif Nat.beq pc 28 then some (.iload 7, 2, 7, 0, 0, mj_u) else none))) else
     (bif Nat.blt pc 33 then (bif Nat.beq pc 30 then some (.invokestatic 87, 3, 83, 0, 707, mj_u) else none) else
      (bif Nat.blt pc 34 then (bif Nat.beq pc 33 then some (.iload_n 2, 1, 2, 0, 0, mj_u) else none) else
       (bif Nat.beq pc 34 then some (.iload 4, 2, 4, 0, 0, mj_u) else none)))))) else
  (bif Nat.blt pc 57 then (bif Nat.blt pc 48 then (bif Nat.blt pc 40 then (bif Nat.blt pc 38 then (bif Nat.beq pc 36 then some (.iload 8, 2, 8, 0, 0, mj_u) else none) else
      (bif Nat.beq pc 38 then some (.iload 7, 2, 7, 0, 0, mj_u) else none)) else
     (bif Nat.blt pc 43 then (bif Nat.beq pc 40 then some (.invokestatic 87, 3, 83, 0, 707, mj_u) else none) else
      (bif Nat.blt pc 46 then (bif Nat.beq pc 43 then some (.invokevirtual 47, 3, 12, 0, 288, mj_u) else none) else
       (bif Nat.beq pc 46 then some (.istore 9, 2, 9, 0, 0, mj_u) else none)))) else
    (bif Nat.blt pc 52 then (bif Nat.blt pc 49 then (bif Nat.beq pc 48 then some (.aload_n 0, 1, 0, 0, 0, mj_u) else none) else
      (bif Nat.beq pc 49 then some (.getfield 9, 3, 4, 0, 87, .null) else none)) else
     (bif Nat.blt pc 54 then (bif Nat.beq pc 52 then some (.iload 9, 2, 9, 0, 0, mj_u) else none) else
      (bif Nat.blt pc 55 then (bif Nat.beq pc 54 then some (.iaload, 1, 0, 0, 0, mj_u) else none) else
       (bif Nat.beq pc 55 then some (.iload 5, 2, 5, 0, 0, mj_u) else none))))) else
   (bif Nat.blt pc 68 then (bif Nat.blt pc 61 then (bif Nat.blt pc 60 then (bif Nat.beq pc 57 then some (.if_icmp .le 15, 3, 72, 0, 0, mj_u) else none) else
      (bif Nat.beq pc 60 then some (.aload_n 0, 1, 0, 0, 0, mj_u) else none)) else
     (bif Nat.blt pc 64 then (bif Nat.beq pc 61 then some (.getfield 9, 3, 4, 0, 87, .null) else none) else
      (bif Nat.blt pc 66 then (bif Nat.beq pc 64 then some (.iload 9, 2, 9, 0, 0, mj_u) else none) else
       (bif Nat.beq pc 66 then some (.iload 5, 2, 5, 0, 0, mj_u) else none)))) else
    (bif Nat.blt pc 75 then (bif Nat.blt pc 69 then (bif Nat.beq pc 68 then some (.iastore, 1, 0, 0, 0, mj_u) else none) else
      (bif Nat.blt pc 72 then (bif Nat.beq pc 69 then some (.iinc 6 1, 3, 6, 0, 0, .int 1) else none) else
       (bif Nat.beq pc 72 then some (.iinc 8 1, 3, 8, 0, 0, .int 1) else none))) else
     (bif Nat.blt pc 78 then (bif Nat.beq pc 75 then some (.goto (-59), 3, 16, 0, 0, mj_u) else none) else
      (bif Nat.blt pc 80 then (bif Nat.beq pc 78 then some (.iload 6, 2, 6, 0, 0, mj_u) else none) else
       (bif Nat.beq pc 80 then some (.ireturn, 1, 0, 0, 0, mj_u) else none))))))
def m_Land_cutDown : mj_M := (81, prog_6_method_17_code, 10, (Option.some Jvm.ClassFile.FieldType.int), 4, 5, 703, 701, 702, 46, 81, k_Land_cutDown)
/-- WatershedMap$Land.stepsBetween(IIII)I static -/
def k_Land_stepsBetween : Nat → Option mj_I := fun pc =>
  bif Nat.blt pc 7 then (bif Nat.blt pc 2 then (bif Nat.blt pc 1 then (bif Nat.beq pc 0 then some (.iload_n 2, 1, 2, 0, 0, mj_u) else none) else
    (bif Nat.beq pc 1 then some (.iload_n 0, 1, 0, 0, 0, mj_u) else none)) else
   (bif Nat.blt pc 3 then (bif Nat.beq pc 2 then some (.isub, 1, 0, 0, 0, mj_u) else none) else
    (bif Nat.blt pc 6 then (bif Nat.beq pc 3 then some (.invokestatic 58, 3, 54, 0, 484, mj_u) else none) else
     (bif Nat.beq pc 6 then some (.iload_n 3, 1, 3, 0, 0, mj_u) else none)))) else
  (bif Nat.blt pc 9 then (bif Nat.blt pc 8 then (bif Nat.beq pc 7 then some (.iload_n 1, 1, 1, 0, 0, mj_u) else none) else
    (bif Nat.beq pc 8 then some (.isub, 1, 0, 0, 0, mj_u) else none)) else
   (bif Nat.blt pc 12 then (bif Nat.beq pc 9 then some (.invokestatic 58, 3, 54, 0, 484, mj_u) else none) else
    (bif Nat.blt pc 15 then (bif Nat.beq pc 12 then some (.invokestatic 77, 3, 26, 0, 487, mj_u) else none) else
     (bif Nat.beq pc 15 then some (.ireturn, 1, 0, 0, 0, mj_u) else none))))
def m_Land_stepsBetween : mj_M := (82, prog_6_method_18_code, 4, (Option.some Jvm.ClassFile.FieldType.int), 4, 4, 706, 705, 0, 46, 16, k_Land_stepsBetween)
/-- WatershedMap$Land.between(IIII)I static -/
def k_Land_between : Nat → Option mj_I := fun pc =>
  bif Nat.blt pc 14 then (bif Nat.blt pc 9 then (bif Nat.blt pc 2 then (bif Nat.blt pc 1 then (bif Nat.beq pc 0 then some (.iload_n 3, 1, 3, 0, 0, mj_u) else none) else
     (bif Nat.beq pc 1 then some (.iconst 1, 1, 0, 0, 0, .int 1) else none)) else
    (bif Nat.blt pc 5 then (bif Nat.beq pc 2 then some (.if_icmp .ge 7, 3, 9, 0, 0, mj_u) else none) else
     (bif Nat.blt pc 6 then (bif Nat.beq pc 5 then some (.iload_n 0, 1, 0, 0, 0, mj_u) else none) else
      (bif Nat.beq pc 6 then some (.goto 20, 3, 26, 0, 0, mj_u) else none)))) else
   (bif Nat.blt pc 11 then (bif Nat.blt pc 10 then (bif Nat.beq pc 9 then some (.iload_n 0, 1, 0, 0, 0, mj_u) else none) else
     (bif Nat.beq pc 10 then some (.iconst 2, 1, 0, 0, 0, .int 2) else none)) else
    (bif Nat.blt pc 12 then (bif Nat.beq pc 11 then some (.iload_n 2, 1, 2, 0, 0, mj_u) else none) else
     (bif Nat.blt pc 13 then (bif Nat.beq pc 12 then some (.imul, 1, 0, 0, 0, mj_u) else none) else
      (bif Nat.beq pc 13 then some (.iload_n 1, 1, 1, 0, 0, mj_u) else none))))) else
  (bif Nat.blt pc 19 then (bif Nat.blt pc 16 then (bif Nat.blt pc 15 then (bif Nat.beq pc 14 then some (.iload_n 0, 1, 0, 0, 0, mj_u) else none) else
     (bif Nat.beq pc 15 then some (.isub, 1, 0, 0, 0, mj_u) else none)) else
    (bif Nat.blt pc 17 then (bif Nat.beq pc 16 then some (.imul, 1, 0, 0, 0, mj_u) else none) else
     (bif Nat.blt pc 18 then (bif Nat.beq pc 17 then some (.iload_n 3, 1, 3, 0, 0, mj_u) else none) else
      (bif Nat.beq pc 18 then some (.iadd, 1, 0, 0, 0, mj_u) else none)))) else
   (bif Nat.blt pc 22 then (bif Nat.blt pc 20 then (bif Nat.beq pc 19 then some (.iconst 2, 1, 0, 0, 0, .int 2) else none) else
     (bif Nat.blt pc 21 then (bif Nat.beq pc 20 then some (.iload_n 3, 1, 3, 0, 0, mj_u) else none) else
      (bif Nat.beq pc 21 then some (.imul, 1, 0, 0, 0, mj_u) else none))) else
    (bif Nat.blt pc 25 then (bif Nat.beq pc 22 then some (.invokestatic 90, 3, 84, 0, 710, mj_u) else none) else
     (bif Nat.blt pc 26 then (bif Nat.beq pc 25 then some (.iadd, 1, 0, 0, 0, mj_u) else none) else
      (bif Nat.beq pc 26 then some (.ireturn, 1, 0, 0, 0, mj_u) else none)))))
def m_Land_between : mj_M := (83, prog_6_method_19_code, 4, (Option.some Jvm.ClassFile.FieldType.int), 4, 4, 709, 708, 0, 46, 27, k_Land_between)
/-- java/lang/Math.floorDiv(II)I static -/
def k_Math_floorDiv : Nat → Option mj_I := fun pc =>
  bif Nat.blt pc 11 then (bif Nat.blt pc 4 then (bif Nat.blt pc 2 then (bif Nat.blt pc 1 then (bif Nat.beq pc 0 then some (.iload_n 0, 1, 0, 0, 0, mj_u) else none) else
     (bif Nat.beq pc 1 then some (.iload_n 1, 1, 1, 0, 0, mj_u) else none)) else
    (bif Nat.blt pc 3 then (bif Nat.beq pc 2 then some (.idiv, 1, 0, 0, 0, mj_u) else none) else
     (bif Nat.beq pc 3 then some (.istore_n 2, 1, 2, 0, 0, mj_u) else none))) else
   (bif Nat.blt pc 6 then (bif Nat.blt pc 5 then (bif Nat.beq pc 4 then some (.iload_n 0, 1, 0, 0, 0, mj_u) else none) else
     (bif Nat.beq pc 5 then some (.iload_n 1, 1, 1, 0, 0, mj_u) else none)) else
    (bif Nat.blt pc 7 then (bif Nat.beq pc 6 then some (.ixor, 1, 0, 0, 0, mj_u) else none) else
     (bif Nat.blt pc 10 then (bif Nat.beq pc 7 then some (.ifCond .ge 14, 3, 21, 0, 0, mj_u) else none) else
      (bif Nat.beq pc 10 then some (.iload_n 2, 1, 2, 0, 0, mj_u) else none))))) else
  (bif Nat.blt pc 18 then (bif Nat.blt pc 13 then (bif Nat.blt pc 12 then (bif Nat.beq pc 11 then some (.iload_n 1, 1, 1, 0, 0, mj_u) else none) else
     (bif Nat.beq pc 12 then some (.imul, 1, 0, 0, 0, mj_u) else none)) else
    (bif Nat.blt pc 14 then (bif Nat.beq pc 13 then some (.iload_n 0, 1, 0, 0, 0, mj_u) else none) else
     (bif Nat.blt pc 17 then (bif Nat.beq pc 14 then some (.if_icmp .eq 7, 3, 21, 0, 0, mj_u) else none) else
      (bif Nat.beq pc 17 then some (.iload_n 2, 1, 2, 0, 0, mj_u) else none)))) else
   (bif Nat.blt pc 20 then (bif Nat.blt pc 19 then (bif Nat.beq pc 18 then some (.iconst 1, 1, 0, 0, 0, .int 1) else none) else
     (bif Nat.beq pc 19 then some (.isub, 1, 0, 0, 0, mj_u) else none)) else
    (bif Nat.blt pc 21 then (bif Nat.beq pc 20 then some (.ireturn, 1, 0, 0, 0, mj_u) else none) else
     (bif Nat.blt pc 22 then (bif Nat.beq pc 21 then some (.iload_n 2, 1, 2, 0, 0, mj_u) else none) else
      (bif Nat.beq pc 22 then some (.ireturn, 1, 0, 0, 0, mj_u) else none)))))
def m_Math_floorDiv : mj_M := (84, prog_22_method_47_code, 3, (Option.some Jvm.ClassFile.FieldType.int), 12, 2, 712, 711, 0, 62, 23, k_Math_floorDiv)
/-- WatershedMap.wear(I)I -/
def k_W_wear : Nat → Option mj_I := fun pc =>
  bif Nat.blt pc 15 then (bif Nat.blt pc 7 then (bif Nat.blt pc 2 then (bif Nat.blt pc 1 then (bif Nat.beq pc 0 then some (.iload_n 1, 1, 1, 0, 0, mj_u) else none) else
     (bif Nat.beq pc 1 then some (.iconst 1, 1, 0, 0, 0, .int 1) else none)) else
    (bif Nat.blt pc 4 then (bif Nat.beq pc 2 then some (.bipush 50, 2, 0, 0, 0, .int 50) else none) else
     (bif Nat.beq pc 4 then some (.invokestatic 65, 3, 73, 0, 569, mj_u) else none))) else
   (bif Nat.blt pc 11 then (bif Nat.blt pc 8 then (bif Nat.beq pc 7 then some (.aload_n 0, 1, 0, 0, 0, mj_u) else none) else
     (bif Nat.beq pc 8 then some (.getfield 21, 3, 8, 1, 297, .null) else none)) else
    (bif Nat.blt pc 12 then (bif Nat.beq pc 11 then some (.aload_n 0, 1, 0, 0, 0, mj_u) else none) else
     (bif Nat.beq pc 12 then some (.getfield 57, 3, 8, 7, 303, .int 0) else none)))) else
  (bif Nat.blt pc 23 then (bif Nat.blt pc 19 then (bif Nat.blt pc 18 then (bif Nat.beq pc 15 then some (.invokevirtual 100, 3, 35, 0, 405, mj_u) else none) else
     (bif Nat.beq pc 18 then some (.aload_n 0, 1, 0, 0, 0, mj_u) else none)) else
    (bif Nat.blt pc 22 then (bif Nat.beq pc 19 then some (.getfield 10, 3, 8, 0, 296, .null) else none) else
     (bif Nat.beq pc 22 then some (.aload_n 0, 1, 0, 0, 0, mj_u) else none))) else
   (bif Nat.blt pc 27 then (bif Nat.blt pc 26 then (bif Nat.beq pc 23 then some (.getfield 21, 3, 8, 1, 297, .null) else none) else
     (bif Nat.beq pc 26 then some (.iload_n 1, 1, 1, 0, 0, mj_u) else none)) else
    (bif Nat.blt pc 30 then (bif Nat.beq pc 27 then some (.invokevirtual 104, 3, 86, 0, 720, mj_u) else none) else
     (bif Nat.beq pc 30 then some (.ireturn, 1, 0, 0, 0, mj_u) else none))))
def m_W_wear : mj_M := (85, prog_1_method_8_code, 2, (Option.some Jvm.ClassFile.FieldType.int), 8, 1, 719, 717, 718, 45, 31, k_W_wear)
/-- WatershedMap$Land.washAway(LWatershedMap$Streams;I)I -/
def k_Land_washAway : Nat → Option mj_I := fun pc =>
  bif Nat.blt pc 58 then (bif Nat.blt pc 29 then (bif Nat.blt pc 14 then (bif Nat.blt pc 4 then (bif Nat.blt pc 2 then (bif Nat.blt pc 1 then (bif Nat.beq pc 0 then some (.iconst 0, 1, 0, 0, 0, .int 0) else none) else
       (bif Nat.beq pc 1 then some (.istore_n 3, 1, 3, 0, 0, mj_u) else none)) else
      (bif Nat.blt pc 3 then (bif Nat.beq pc 2 then some (.iload_n 3, 1, 3, 0, 0, mj_u) else none) else
       (bif Nat.beq pc 3 then some (.aload_n 0, 1, 0, 0, 0, mj_u) else none))) else
     (bif Nat.blt pc 10 then (bif Nat.blt pc 7 then (bif Nat.beq pc 4 then some (.getfield 28, 3, 4, 5, 103, .int 0) else none) else
       (bif Nat.beq pc 7 then some (.if_icmp .ge 66, 3, 73, 0, 0, mj_u) else none)) else
      (bif Nat.blt pc 11 then (bif Nat.beq pc 10 then some (.aload_n 1, 1, 1, 0, 0, mj_u) else none) else
       (bif Nat.beq pc 11 then some (.getfield 93, 3, 6, 2, 130, .null) else none)))) else
    (bif Nat.blt pc 20 then (bif Nat.blt pc 16 then (bif Nat.blt pc 15 then (bif Nat.beq pc 14 then some (.iload_n 3, 1, 3, 0, 0, mj_u) else none) else
       (bif Nat.beq pc 15 then some (.iaload, 1, 0, 0, 0, mj_u) else none)) else
      (bif Nat.blt pc 18 then (bif Nat.beq pc 16 then some (.istore 4, 2, 4, 0, 0, mj_u) else none) else
       (bif Nat.beq pc 18 then some (.iload 4, 2, 4, 0, 0, mj_u) else none))) else
     (bif Nat.blt pc 24 then (bif Nat.blt pc 23 then (bif Nat.beq pc 20 then some (.ifCond .ge 7, 3, 27, 0, 0, mj_u) else none) else
       (bif Nat.beq pc 23 then some (.iconst 0, 1, 0, 0, 0, .int 0) else none)) else
      (bif Nat.blt pc 27 then (bif Nat.beq pc 24 then some (.goto 26, 3, 50, 0, 0, mj_u) else none) else
       (bif Nat.blt pc 28 then (bif Nat.beq pc 27 then some (.iload_n 2, 1, 2, 0, 0, mj_u) else none) else
        (bif Nat.beq pc 28 then some (.aload_n 1, 1, 1, 0, 0, mj_u) else none)))))) else
   (bif Nat.blt pc 42 then (bif Nat.blt pc 35 then (bif Nat.blt pc 33 then (bif Nat.blt pc 32 then (bif Nat.beq pc 29 then some (.getfield 98, 3, 6, 3, 132, .null) else none) else
       (bif Nat.beq pc 32 then some (.iload_n 3, 1, 3, 0, 0, mj_u) else none)) else
      (bif Nat.blt pc 34 then (bif Nat.beq pc 33 then some (.iaload, 1, 0, 0, 0, mj_u) else none) else
       (bif Nat.beq pc 34 then some (.imul, 1, 0, 0, 0, mj_u) else none))) else
     (bif Nat.blt pc 38 then (bif Nat.blt pc 37 then (bif Nat.beq pc 35 then some (.bipush 10, 2, 0, 0, 0, .int 10) else none) else
       (bif Nat.beq pc 37 then some (.idiv, 1, 0, 0, 0, mj_u) else none)) else
      (bif Nat.blt pc 39 then (bif Nat.beq pc 38 then some (.aload_n 0, 1, 0, 0, 0, mj_u) else none) else
       (bif Nat.blt pc 40 then (bif Nat.beq pc 39 then some (.iload_n 3, 1, 3, 0, 0, mj_u) else none) else
        (bif Nat.beq pc 40 then some (.iload 4, 2, 4, 0, 0, mj_u) else none))))) else
    (bif Nat.blt pc 50 then (bif Nat.blt pc 46 then (bif Nat.blt pc 45 then (bif Nat.beq pc 42 then some (.invokevirtual 101, 3, 53, 0, 480, mj_u) else none) else
       (bif Nat.beq pc 45 then some (.iconst 2, 1, 0, 0, 0, .int 2) else none)) else
      (bif Nat.blt pc 47 then (bif Nat.beq pc 46 then some (.idiv, 1, 0, 0, 0, mj_u) else none) else
       (bif Nat.beq pc 47 then some (.invokestatic 74, 3, 59, 0, 506, mj_u) else none))) else
     (bif Nat.blt pc 53 then (bif Nat.blt pc 52 then (bif Nat.beq pc 50 then some (.istore 5, 2, 5, 0, 0, mj_u) else none) else
       (bif Nat.beq pc 52 then some (.aload_n 0, 1, 0, 0, 0, mj_u) else none)) else
      (bif Nat.blt pc 56 then (bif Nat.beq pc 53 then some (.getfield 15, 3, 4, 1, 93, .null) else none) else
       (bif Nat.blt pc 57 then (bif Nat.beq pc 56 then some (.iload_n 3, 1, 3, 0, 0, mj_u) else none) else
        (bif Nat.beq pc 57 then some (.aload_n 0, 1, 0, 0, 0, mj_u) else none))))))) else
  (bif Nat.blt pc 88 then (bif Nat.blt pc 73 then (bif Nat.blt pc 65 then (bif Nat.blt pc 62 then (bif Nat.blt pc 61 then (bif Nat.beq pc 58 then some (.getfield 9, 3, 4, 0, 87, .null) else none) else
       (bif Nat.beq pc 61 then some (.iload_n 3, 1, 3, 0, 0, mj_u) else none)) else
      (bif Nat.blt pc 63 then (bif Nat.beq pc 62 then some (.iaload, 1, 0, 0, 0, mj_u) else none) else
       (bif Nat.beq pc 63 then some (.iload 5, 2, 5, 0, 0, mj_u) else none))) else
     (bif Nat.blt pc 67 then (bif Nat.blt pc 66 then (bif Nat.beq pc 65 then some (.isub, 1, 0, 0, 0, mj_u) else none) else
       (bif Nat.beq pc 66 then some (.iastore, 1, 0, 0, 0, mj_u) else none)) else
      (bif Nat.blt pc 70 then (bif Nat.beq pc 67 then some (.iinc 3 1, 3, 3, 0, 0, .int 1) else none) else
       (bif Nat.beq pc 70 then some (.goto (-68), 3, 2, 0, 0, mj_u) else none)))) else
    (bif Nat.blt pc 78 then (bif Nat.blt pc 75 then (bif Nat.blt pc 74 then (bif Nat.beq pc 73 then some (.iconst 0, 1, 0, 0, 0, .int 0) else none) else
       (bif Nat.beq pc 74 then some (.istore_n 3, 1, 3, 0, 0, mj_u) else none)) else
      (bif Nat.blt pc 76 then (bif Nat.beq pc 75 then some (.iconst 0, 1, 0, 0, 0, .int 0) else none) else
       (bif Nat.beq pc 76 then some (.istore 4, 2, 4, 0, 0, mj_u) else none))) else
     (bif Nat.blt pc 81 then (bif Nat.blt pc 80 then (bif Nat.beq pc 78 then some (.iload 4, 2, 4, 0, 0, mj_u) else none) else
       (bif Nat.beq pc 80 then some (.aload_n 0, 1, 0, 0, 0, mj_u) else none)) else
      (bif Nat.blt pc 84 then (bif Nat.beq pc 81 then some (.getfield 28, 3, 4, 5, 103, .int 0) else none) else
       (bif Nat.blt pc 87 then (bif Nat.beq pc 84 then some (.if_icmp .ge 33, 3, 117, 0, 0, mj_u) else none) else
        (bif Nat.beq pc 87 then some (.iload_n 3, 1, 3, 0, 0, mj_u) else none)))))) else
   (bif Nat.blt pc 105 then (bif Nat.blt pc 95 then (bif Nat.blt pc 91 then (bif Nat.blt pc 89 then (bif Nat.beq pc 88 then some (.aload_n 0, 1, 0, 0, 0, mj_u) else none) else
       (bif Nat.beq pc 89 then some (.iload 4, 2, 4, 0, 0, mj_u) else none)) else
      (bif Nat.blt pc 92 then (bif Nat.beq pc 91 then some (.aload_n 0, 1, 0, 0, 0, mj_u) else none) else
       (bif Nat.beq pc 92 then some (.getfield 15, 3, 4, 1, 93, .null) else none))) else
     (bif Nat.blt pc 98 then (bif Nat.blt pc 97 then (bif Nat.beq pc 95 then some (.iload 4, 2, 4, 0, 0, mj_u) else none) else
       (bif Nat.beq pc 97 then some (.iaload, 1, 0, 0, 0, mj_u) else none)) else
      (bif Nat.blt pc 101 then (bif Nat.beq pc 98 then some (.invokevirtual 80, 3, 17, 0, 333, mj_u) else none) else
       (bif Nat.blt pc 102 then (bif Nat.beq pc 101 then some (.aload_n 0, 1, 0, 0, 0, mj_u) else none) else
        (bif Nat.beq pc 102 then some (.getfield 15, 3, 4, 1, 93, .null) else none))))) else
    (bif Nat.blt pc 110 then (bif Nat.blt pc 108 then (bif Nat.blt pc 107 then (bif Nat.beq pc 105 then some (.iload 4, 2, 4, 0, 0, mj_u) else none) else
       (bif Nat.beq pc 107 then some (.iaload, 1, 0, 0, 0, mj_u) else none)) else
      (bif Nat.blt pc 109 then (bif Nat.beq pc 108 then some (.isub, 1, 0, 0, 0, mj_u) else none) else
       (bif Nat.beq pc 109 then some (.iadd, 1, 0, 0, 0, mj_u) else none))) else
     (bif Nat.blt pc 114 then (bif Nat.blt pc 111 then (bif Nat.beq pc 110 then some (.istore_n 3, 1, 3, 0, 0, mj_u) else none) else
       (bif Nat.beq pc 111 then some (.iinc 4 1, 3, 4, 0, 0, .int 1) else none)) else
      (bif Nat.blt pc 117 then (bif Nat.beq pc 114 then some (.goto (-36), 3, 78, 0, 0, mj_u) else none) else
       (bif Nat.blt pc 118 then (bif Nat.beq pc 117 then some (.iload_n 3, 1, 3, 0, 0, mj_u) else none) else
        (bif Nat.beq pc 118 then some (.ireturn, 1, 0, 0, 0, mj_u) else none)))))))
def m_Land_washAway : mj_M := (86, prog_6_method_21_code, 6, (Option.some Jvm.ClassFile.FieldType.int), 4, 2, 723, 721, 722, 46, 119, k_Land_washAway)
/-- WatershedMap.setBrook(I)I -/
def k_W_setBrook : Nat → Option mj_I := fun pc =>
  bif Nat.blt pc 11 then (bif Nat.blt pc 4 then (bif Nat.blt pc 1 then (bif Nat.beq pc 0 then some (.iload_n 1, 1, 1, 0, 0, mj_u) else none) else
    (bif Nat.blt pc 2 then (bif Nat.beq pc 1 then some (.iconst 1, 1, 0, 0, 0, .int 1) else none) else
     (bif Nat.beq pc 2 then some (.bipush 100, 2, 0, 0, 0, .int 100) else none))) else
   (bif Nat.blt pc 7 then (bif Nat.beq pc 4 then some (.invokestatic 65, 3, 73, 0, 569, mj_u) else none) else
    (bif Nat.blt pc 8 then (bif Nat.beq pc 7 then some (.aload_n 0, 1, 0, 0, 0, mj_u) else none) else
     (bif Nat.beq pc 8 then some (.getfield 57, 3, 8, 7, 303, .int 0) else none)))) else
  (bif Nat.blt pc 14 then (bif Nat.blt pc 12 then (bif Nat.beq pc 11 then some (.istore_n 2, 1, 2, 0, 0, mj_u) else none) else
    (bif Nat.blt pc 13 then (bif Nat.beq pc 12 then some (.aload_n 0, 1, 0, 0, 0, mj_u) else none) else
     (bif Nat.beq pc 13 then some (.iload_n 1, 1, 1, 0, 0, mj_u) else none))) else
   (bif Nat.blt pc 17 then (bif Nat.beq pc 14 then some (.putfield 57, 3, 8, 7, 303, .int 0) else none) else
    (bif Nat.blt pc 18 then (bif Nat.beq pc 17 then some (.iload_n 2, 1, 2, 0, 0, mj_u) else none) else
     (bif Nat.beq pc 18 then some (.ireturn, 1, 0, 0, 0, mj_u) else none))))
def m_W_setBrook : mj_M := (87, prog_1_method_10_code, 3, (Option.some Jvm.ClassFile.FieldType.int), 8, 1, 730, 728, 729, 45, 19, k_W_setBrook)
/-- WatershedMap.map(I)I -/
def k_W_map : Nat → Option mj_I := fun pc =>
  bif Nat.blt pc 6 then (bif Nat.blt pc 2 then (bif Nat.blt pc 1 then (bif Nat.beq pc 0 then some (.iload_n 1, 1, 1, 0, 0, mj_u) else none) else
    (bif Nat.beq pc 1 then some (.iconst 0, 1, 0, 0, 0, .int 0) else none)) else
   (bif Nat.blt pc 3 then (bif Nat.beq pc 2 then some (.iconst 4, 1, 0, 0, 0, .int 4) else none) else
    (bif Nat.beq pc 3 then some (.invokestatic 65, 3, 73, 0, 569, mj_u) else none))) else
  (bif Nat.blt pc 10 then (bif Nat.blt pc 7 then (bif Nat.beq pc 6 then some (.aload_n 0, 1, 0, 0, 0, mj_u) else none) else
    (bif Nat.beq pc 7 then some (.getfield 10, 3, 8, 0, 296, .null) else none)) else
   (bif Nat.blt pc 11 then (bif Nat.beq pc 10 then some (.iload_n 1, 1, 1, 0, 0, mj_u) else none) else
    (bif Nat.blt pc 14 then (bif Nat.beq pc 11 then some (.invokevirtual 118, 3, 57, 0, 498, mj_u) else none) else
     (bif Nat.beq pc 14 then some (.ireturn, 1, 0, 0, 0, mj_u) else none))))
def m_W_map : mj_M := (88, prog_1_method_11_code, 2, (Option.some Jvm.ClassFile.FieldType.int), 8, 1, 737, 735, 736, 45, 15, k_W_map)
/-- WatershedMap.height(II)I -/
def k_W_height : Nat → Option mj_I := fun pc =>
  bif Nat.blt pc 13 then (bif Nat.blt pc 3 then (bif Nat.blt pc 1 then (bif Nat.beq pc 0 then some (.aload_n 0, 1, 0, 0, 0, mj_u) else none) else
    (bif Nat.blt pc 2 then (bif Nat.beq pc 1 then some (.iload_n 1, 1, 1, 0, 0, mj_u) else none) else
     (bif Nat.beq pc 2 then some (.iload_n 2, 1, 2, 0, 0, mj_u) else none))) else
   (bif Nat.blt pc 7 then (bif Nat.blt pc 6 then (bif Nat.beq pc 3 then some (.invokevirtual 72, 3, 75, 0, 647, mj_u) else none) else
     (bif Nat.beq pc 6 then some (.aload_n 0, 1, 0, 0, 0, mj_u) else none)) else
    (bif Nat.blt pc 10 then (bif Nat.beq pc 7 then some (.getfield 10, 3, 8, 0, 296, .null) else none) else
     (bif Nat.beq pc 10 then some (.getfield 122, 3, 4, 0, 92, .null) else none)))) else
  (bif Nat.blt pc 18 then (bif Nat.blt pc 14 then (bif Nat.beq pc 13 then some (.aload_n 0, 1, 0, 0, 0, mj_u) else none) else
    (bif Nat.blt pc 17 then (bif Nat.beq pc 14 then some (.getfield 10, 3, 8, 0, 296, .null) else none) else
     (bif Nat.beq pc 17 then some (.iload_n 1, 1, 1, 0, 0, mj_u) else none))) else
   (bif Nat.blt pc 22 then (bif Nat.blt pc 19 then (bif Nat.beq pc 18 then some (.iload_n 2, 1, 2, 0, 0, mj_u) else none) else
     (bif Nat.beq pc 19 then some (.invokevirtual 75, 3, 12, 0, 668, mj_u) else none)) else
    (bif Nat.blt pc 23 then (bif Nat.beq pc 22 then some (.iaload, 1, 0, 0, 0, mj_u) else none) else
     (bif Nat.beq pc 23 then some (.ireturn, 1, 0, 0, 0, mj_u) else none))))
def m_W_height : mj_M := (89, prog_1_method_12_code, 3, (Option.some Jvm.ClassFile.FieldType.int), 8, 2, 744, 742, 743, 45, 24, k_W_height)
/-- WatershedMap.water(III)I -/
def k_W_water : Nat → Option mj_I := fun pc =>
  bif Nat.blt pc 17 then (bif Nat.blt pc 7 then (bif Nat.blt pc 2 then (bif Nat.blt pc 1 then (bif Nat.beq pc 0 then some (.aload_n 0, 1, 0, 0, 0, mj_u) else none) else
     (bif Nat.beq pc 1 then some (.iload_n 1, 1, 1, 0, 0, mj_u) else none)) else
    (bif Nat.blt pc 3 then (bif Nat.beq pc 2 then some (.iload_n 2, 1, 2, 0, 0, mj_u) else none) else
     (bif Nat.blt pc 6 then (bif Nat.beq pc 3 then some (.invokevirtual 72, 3, 75, 0, 647, mj_u) else none) else
      (bif Nat.beq pc 6 then some (.iload_n 3, 1, 3, 0, 0, mj_u) else none)))) else
   (bif Nat.blt pc 12 then (bif Nat.blt pc 8 then (bif Nat.beq pc 7 then some (.iconst 0, 1, 0, 0, 0, .int 0) else none) else
     (bif Nat.blt pc 9 then (bif Nat.beq pc 8 then some (.iconst 4, 1, 0, 0, 0, .int 4) else none) else
      (bif Nat.beq pc 9 then some (.invokestatic 65, 3, 73, 0, 569, mj_u) else none))) else
    (bif Nat.blt pc 13 then (bif Nat.beq pc 12 then some (.aload_n 0, 1, 0, 0, 0, mj_u) else none) else
     (bif Nat.blt pc 16 then (bif Nat.beq pc 13 then some (.getfield 21, 3, 8, 1, 297, .null) else none) else
      (bif Nat.beq pc 16 then some (.aload_n 0, 1, 0, 0, 0, mj_u) else none))))) else
  (bif Nat.blt pc 31 then (bif Nat.blt pc 24 then (bif Nat.blt pc 20 then (bif Nat.beq pc 17 then some (.getfield 57, 3, 8, 7, 303, .int 0) else none) else
     (bif Nat.blt pc 23 then (bif Nat.beq pc 20 then some (.invokevirtual 100, 3, 35, 0, 405, mj_u) else none) else
      (bif Nat.beq pc 23 then some (.aload_n 0, 1, 0, 0, 0, mj_u) else none))) else
    (bif Nat.blt pc 27 then (bif Nat.beq pc 24 then some (.getfield 21, 3, 8, 1, 297, .null) else none) else
     (bif Nat.blt pc 28 then (bif Nat.beq pc 27 then some (.aload_n 0, 1, 0, 0, 0, mj_u) else none) else
      (bif Nat.beq pc 28 then some (.getfield 10, 3, 8, 0, 296, .null) else none)))) else
   (bif Nat.blt pc 36 then (bif Nat.blt pc 32 then (bif Nat.beq pc 31 then some (.iload_n 1, 1, 1, 0, 0, mj_u) else none) else
     (bif Nat.blt pc 33 then (bif Nat.beq pc 32 then some (.iload_n 2, 1, 2, 0, 0, mj_u) else none) else
      (bif Nat.beq pc 33 then some (.invokevirtual 75, 3, 12, 0, 668, mj_u) else none))) else
    (bif Nat.blt pc 37 then (bif Nat.beq pc 36 then some (.iload_n 3, 1, 3, 0, 0, mj_u) else none) else
     (bif Nat.blt pc 40 then (bif Nat.beq pc 37 then some (.invokevirtual 125, 3, 71, 0, 557, mj_u) else none) else
      (bif Nat.beq pc 40 then some (.ireturn, 1, 0, 0, 0, mj_u) else none)))))
def m_W_water : mj_M := (90, prog_1_method_13_code, 4, (Option.some Jvm.ClassFile.FieldType.int), 8, 3, 751, 749, 750, 45, 41, k_W_water)
/-- WatershedMap.level(II)I -/
def k_W_level : Nat → Option mj_I := fun pc =>
  bif Nat.blt pc 14 then (bif Nat.blt pc 6 then (bif Nat.blt pc 2 then (bif Nat.blt pc 1 then (bif Nat.beq pc 0 then some (.aload_n 0, 1, 0, 0, 0, mj_u) else none) else
     (bif Nat.beq pc 1 then some (.iload_n 1, 1, 1, 0, 0, mj_u) else none)) else
    (bif Nat.blt pc 3 then (bif Nat.beq pc 2 then some (.iload_n 2, 1, 2, 0, 0, mj_u) else none) else
     (bif Nat.beq pc 3 then some (.invokevirtual 72, 3, 75, 0, 647, mj_u) else none))) else
   (bif Nat.blt pc 10 then (bif Nat.blt pc 7 then (bif Nat.beq pc 6 then some (.aload_n 0, 1, 0, 0, 0, mj_u) else none) else
     (bif Nat.beq pc 7 then some (.getfield 28, 3, 8, 2, 298, .null) else none)) else
    (bif Nat.blt pc 13 then (bif Nat.beq pc 10 then some (.invokevirtual 108, 3, 19, 0, 341, mj_u) else none) else
     (bif Nat.beq pc 13 then some (.aload_n 0, 1, 0, 0, 0, mj_u) else none)))) else
  (bif Nat.blt pc 24 then (bif Nat.blt pc 20 then (bif Nat.blt pc 17 then (bif Nat.beq pc 14 then some (.getfield 28, 3, 8, 2, 298, .null) else none) else
     (bif Nat.beq pc 17 then some (.getfield 111, 3, 3, 1, 201, .null) else none)) else
    (bif Nat.blt pc 21 then (bif Nat.beq pc 20 then some (.aload_n 0, 1, 0, 0, 0, mj_u) else none) else
     (bif Nat.beq pc 21 then some (.getfield 10, 3, 8, 0, 296, .null) else none))) else
   (bif Nat.blt pc 26 then (bif Nat.blt pc 25 then (bif Nat.beq pc 24 then some (.iload_n 1, 1, 1, 0, 0, mj_u) else none) else
     (bif Nat.beq pc 25 then some (.iload_n 2, 1, 2, 0, 0, mj_u) else none)) else
    (bif Nat.blt pc 29 then (bif Nat.beq pc 26 then some (.invokevirtual 75, 3, 12, 0, 668, mj_u) else none) else
     (bif Nat.blt pc 30 then (bif Nat.beq pc 29 then some (.iaload, 1, 0, 0, 0, mj_u) else none) else
      (bif Nat.beq pc 30 then some (.ireturn, 1, 0, 0, 0, mj_u) else none)))))
def m_W_level : mj_M := (91, prog_1_method_18_code, 3, (Option.some Jvm.ClassFile.FieldType.int), 8, 2, 758, 756, 757, 45, 31, k_W_level)
/-- WatershedMap.lake(III)I -/
def k_W_lake : Nat → Option mj_I := fun pc =>
  bif Nat.blt pc 24 then (bif Nat.blt pc 9 then (bif Nat.blt pc 3 then (bif Nat.blt pc 1 then (bif Nat.beq pc 0 then some (.aload_n 0, 1, 0, 0, 0, mj_u) else none) else
     (bif Nat.blt pc 2 then (bif Nat.beq pc 1 then some (.iload_n 1, 1, 1, 0, 0, mj_u) else none) else
      (bif Nat.beq pc 2 then some (.iload_n 2, 1, 2, 0, 0, mj_u) else none))) else
    (bif Nat.blt pc 7 then (bif Nat.blt pc 6 then (bif Nat.beq pc 3 then some (.invokevirtual 72, 3, 75, 0, 647, mj_u) else none) else
      (bif Nat.beq pc 6 then some (.iload_n 3, 1, 3, 0, 0, mj_u) else none)) else
     (bif Nat.blt pc 8 then (bif Nat.beq pc 7 then some (.iconst 0, 1, 0, 0, 0, .int 0) else none) else
      (bif Nat.beq pc 8 then some (.iconst 1, 1, 0, 0, 0, .int 1) else none)))) else
   (bif Nat.blt pc 16 then (bif Nat.blt pc 12 then (bif Nat.beq pc 9 then some (.invokestatic 65, 3, 73, 0, 569, mj_u) else none) else
     (bif Nat.blt pc 13 then (bif Nat.beq pc 12 then some (.aload_n 0, 1, 0, 0, 0, mj_u) else none) else
      (bif Nat.beq pc 13 then some (.getfield 28, 3, 8, 2, 298, .null) else none))) else
    (bif Nat.blt pc 20 then (bif Nat.blt pc 19 then (bif Nat.beq pc 16 then some (.invokevirtual 108, 3, 19, 0, 341, mj_u) else none) else
      (bif Nat.beq pc 19 then some (.aload_n 0, 1, 0, 0, 0, mj_u) else none)) else
     (bif Nat.blt pc 23 then (bif Nat.beq pc 20 then some (.getfield 10, 3, 8, 0, 296, .null) else none) else
      (bif Nat.beq pc 23 then some (.iload_n 1, 1, 1, 0, 0, mj_u) else none))))) else
  (bif Nat.blt pc 38 then (bif Nat.blt pc 30 then (bif Nat.blt pc 25 then (bif Nat.beq pc 24 then some (.iload_n 2, 1, 2, 0, 0, mj_u) else none) else
     (bif Nat.blt pc 28 then (bif Nat.beq pc 25 then some (.invokevirtual 75, 3, 12, 0, 668, mj_u) else none) else
      (bif Nat.beq pc 28 then some (.istore 4, 2, 4, 0, 0, mj_u) else none))) else
    (bif Nat.blt pc 34 then (bif Nat.blt pc 31 then (bif Nat.beq pc 30 then some (.iload_n 3, 1, 3, 0, 0, mj_u) else none) else
      (bif Nat.beq pc 31 then some (.ifCond .ne 15, 3, 46, 0, 0, mj_u) else none)) else
     (bif Nat.blt pc 35 then (bif Nat.beq pc 34 then some (.aload_n 0, 1, 0, 0, 0, mj_u) else none) else
      (bif Nat.beq pc 35 then some (.getfield 28, 3, 8, 2, 298, .null) else none)))) else
   (bif Nat.blt pc 47 then (bif Nat.blt pc 43 then (bif Nat.blt pc 40 then (bif Nat.beq pc 38 then some (.iload 4, 2, 4, 0, 0, mj_u) else none) else
      (bif Nat.beq pc 40 then some (.invokevirtual 142, 3, 93, 0, 766, mj_u) else none)) else
     (bif Nat.blt pc 46 then (bif Nat.beq pc 43 then some (.goto 12, 3, 55, 0, 0, mj_u) else none) else
      (bif Nat.beq pc 46 then some (.aload_n 0, 1, 0, 0, 0, mj_u) else none))) else
    (bif Nat.blt pc 52 then (bif Nat.blt pc 50 then (bif Nat.beq pc 47 then some (.getfield 28, 3, 8, 2, 298, .null) else none) else
      (bif Nat.beq pc 50 then some (.iload 4, 2, 4, 0, 0, mj_u) else none)) else
     (bif Nat.blt pc 55 then (bif Nat.beq pc 52 then some (.invokevirtual 145, 3, 95, 0, 775, mj_u) else none) else
      (bif Nat.beq pc 55 then some (.ireturn, 1, 0, 0, 0, mj_u) else none)))))
def m_W_lake : mj_M := (92, prog_1_method_20_code, 5, (Option.some Jvm.ClassFile.FieldType.int), 8, 3, 765, 763, 764, 45, 56, k_W_lake)
/-- WatershedMap$Hollows.sizeOfLake(I)I -/
def k_Hollows_sizeOfLake : Nat → Option mj_I := fun pc =>
  bif Nat.blt pc 18 then (bif Nat.blt pc 6 then (bif Nat.blt pc 3 then (bif Nat.blt pc 1 then (bif Nat.beq pc 0 then some (.iconst 0, 1, 0, 0, 0, .int 0) else none) else
     (bif Nat.blt pc 2 then (bif Nat.beq pc 1 then some (.istore_n 2, 1, 2, 0, 0, mj_u) else none) else
      (bif Nat.beq pc 2 then some (.iconst 0, 1, 0, 0, 0, .int 0) else none))) else
    (bif Nat.blt pc 4 then (bif Nat.beq pc 3 then some (.istore_n 3, 1, 3, 0, 0, mj_u) else none) else
     (bif Nat.blt pc 5 then (bif Nat.beq pc 4 then some (.iload_n 3, 1, 3, 0, 0, mj_u) else none) else
      (bif Nat.beq pc 5 then some (.aload_n 0, 1, 0, 0, 0, mj_u) else none)))) else
   (bif Nat.blt pc 15 then (bif Nat.blt pc 9 then (bif Nat.beq pc 6 then some (.getfield 29, 3, 3, 0, 199, .null) else none) else
     (bif Nat.blt pc 12 then (bif Nat.beq pc 9 then some (.getfield 43, 3, 4, 5, 104, .int 0) else none) else
      (bif Nat.beq pc 12 then some (.if_icmp .ge 26, 3, 38, 0, 0, mj_u) else none))) else
    (bif Nat.blt pc 16 then (bif Nat.beq pc 15 then some (.iload_n 2, 1, 2, 0, 0, mj_u) else none) else
     (bif Nat.blt pc 17 then (bif Nat.beq pc 16 then some (.aload_n 0, 1, 0, 0, 0, mj_u) else none) else
      (bif Nat.beq pc 17 then some (.iload_n 1, 1, 1, 0, 0, mj_u) else none))))) else
  (bif Nat.blt pc 30 then (bif Nat.blt pc 25 then (bif Nat.blt pc 19 then (bif Nat.beq pc 18 then some (.iload_n 3, 1, 3, 0, 0, mj_u) else none) else
     (bif Nat.blt pc 22 then (bif Nat.beq pc 19 then some (.invokevirtual 96, 3, 94, 0, 770, mj_u) else none) else
      (bif Nat.beq pc 22 then some (.ifCond .eq 7, 3, 29, 0, 0, mj_u) else none))) else
    (bif Nat.blt pc 26 then (bif Nat.beq pc 25 then some (.iconst 1, 1, 0, 0, 0, .int 1) else none) else
     (bif Nat.blt pc 29 then (bif Nat.beq pc 26 then some (.goto 4, 3, 30, 0, 0, mj_u) else none) else
      (bif Nat.beq pc 29 then some (.iconst 0, 1, 0, 0, 0, .int 0) else none)))) else
   (bif Nat.blt pc 35 then (bif Nat.blt pc 31 then (bif Nat.beq pc 30 then some (.iadd, 1, 0, 0, 0, mj_u) else none) else
     (bif Nat.blt pc 32 then (bif Nat.beq pc 31 then some (.istore_n 2, 1, 2, 0, 0, mj_u) else none) else
      (bif Nat.beq pc 32 then some (.iinc 3 1, 3, 3, 0, 0, .int 1) else none))) else
    (bif Nat.blt pc 38 then (bif Nat.beq pc 35 then some (.goto (-31), 3, 4, 0, 0, mj_u) else none) else
     (bif Nat.blt pc 39 then (bif Nat.beq pc 38 then some (.iload_n 2, 1, 2, 0, 0, mj_u) else none) else
      (bif Nat.beq pc 39 then some (.ireturn, 1, 0, 0, 0, mj_u) else none)))))
def m_Hollows_sizeOfLake : mj_M := (93, prog_5_method_9_code, 4, (Option.some Jvm.ClassFile.FieldType.int), 3, 1, 769, 767, 768, 48, 40, k_Hollows_sizeOfLake)
/-- WatershedMap$Hollows.inOneLake(II)Z -/
def k_Hollows_inOneLake : Nat → Option mj_I := fun pc =>
  bif Nat.blt pc 20 then (bif Nat.blt pc 9 then (bif Nat.blt pc 2 then (bif Nat.blt pc 1 then (bif Nat.beq pc 0 then some (.aload_n 0, 1, 0, 0, 0, mj_u) else none) else
     (bif Nat.beq pc 1 then some (.iload_n 1, 1, 1, 0, 0, mj_u) else none)) else
    (bif Nat.blt pc 5 then (bif Nat.beq pc 2 then some (.invokevirtual 48, 3, 28, 0, 377, mj_u) else none) else
     (bif Nat.blt pc 8 then (bif Nat.beq pc 5 then some (.ifCond .eq 34, 3, 39, 0, 0, mj_u) else none) else
      (bif Nat.beq pc 8 then some (.aload_n 0, 1, 0, 0, 0, mj_u) else none)))) else
   (bif Nat.blt pc 13 then (bif Nat.blt pc 10 then (bif Nat.beq pc 9 then some (.iload_n 2, 1, 2, 0, 0, mj_u) else none) else
     (bif Nat.beq pc 10 then some (.invokevirtual 48, 3, 28, 0, 377, mj_u) else none)) else
    (bif Nat.blt pc 16 then (bif Nat.beq pc 13 then some (.ifCond .eq 26, 3, 39, 0, 0, mj_u) else none) else
     (bif Nat.blt pc 17 then (bif Nat.beq pc 16 then some (.aload_n 0, 1, 0, 0, 0, mj_u) else none) else
      (bif Nat.beq pc 17 then some (.getfield 25, 3, 3, 3, 203, .null) else none))))) else
  (bif Nat.blt pc 29 then (bif Nat.blt pc 24 then (bif Nat.blt pc 21 then (bif Nat.beq pc 20 then some (.iload_n 1, 1, 1, 0, 0, mj_u) else none) else
     (bif Nat.beq pc 21 then some (.invokevirtual 93, 3, 32, 0, 774, mj_u) else none)) else
    (bif Nat.blt pc 25 then (bif Nat.beq pc 24 then some (.aload_n 0, 1, 0, 0, 0, mj_u) else none) else
     (bif Nat.blt pc 28 then (bif Nat.beq pc 25 then some (.getfield 25, 3, 3, 3, 203, .null) else none) else
      (bif Nat.beq pc 28 then some (.iload_n 2, 1, 2, 0, 0, mj_u) else none)))) else
   (bif Nat.blt pc 36 then (bif Nat.blt pc 32 then (bif Nat.beq pc 29 then some (.invokevirtual 93, 3, 32, 0, 774, mj_u) else none) else
     (bif Nat.blt pc 35 then (bif Nat.beq pc 32 then some (.if_icmp .ne 7, 3, 39, 0, 0, mj_u) else none) else
      (bif Nat.beq pc 35 then some (.iconst 1, 1, 0, 0, 0, .int 1) else none))) else
    (bif Nat.blt pc 39 then (bif Nat.beq pc 36 then some (.goto 4, 3, 40, 0, 0, mj_u) else none) else
     (bif Nat.blt pc 40 then (bif Nat.beq pc 39 then some (.iconst 0, 1, 0, 0, 0, .int 0) else none) else
      (bif Nat.beq pc 40 then some (.ireturn, 1, 0, 0, 0, mj_u) else none)))))
def m_Hollows_inOneLake : mj_M := (94, prog_5_method_8_code, 3, (Option.some Jvm.ClassFile.FieldType.boolean), 3, 2, 773, 772, 22, 48, 41, k_Hollows_inOneLake)
/-- WatershedMap$Hollows.contentOfLake(I)I -/
def k_Hollows_contentOfLake : Nat → Option mj_I := fun pc =>
  bif Nat.blt pc 19 then (bif Nat.blt pc 6 then (bif Nat.blt pc 3 then (bif Nat.blt pc 1 then (bif Nat.beq pc 0 then some (.iconst 0, 1, 0, 0, 0, .int 0) else none) else
     (bif Nat.blt pc 2 then (bif Nat.beq pc 1 then some (.istore_n 2, 1, 2, 0, 0, mj_u) else none) else
      (bif Nat.beq pc 2 then some (.iconst 0, 1, 0, 0, 0, .int 0) else none))) else
    (bif Nat.blt pc 4 then (bif Nat.beq pc 3 then some (.istore_n 3, 1, 3, 0, 0, mj_u) else none) else
     (bif Nat.blt pc 5 then (bif Nat.beq pc 4 then some (.iload_n 3, 1, 3, 0, 0, mj_u) else none) else
      (bif Nat.beq pc 5 then some (.aload_n 0, 1, 0, 0, 0, mj_u) else none)))) else
   (bif Nat.blt pc 15 then (bif Nat.blt pc 9 then (bif Nat.beq pc 6 then some (.getfield 29, 3, 3, 0, 199, .null) else none) else
     (bif Nat.blt pc 12 then (bif Nat.beq pc 9 then some (.getfield 43, 3, 4, 5, 104, .int 0) else none) else
      (bif Nat.beq pc 12 then some (.if_icmp .ge 30, 3, 42, 0, 0, mj_u) else none))) else
    (bif Nat.blt pc 17 then (bif Nat.blt pc 16 then (bif Nat.beq pc 15 then some (.iload_n 2, 1, 2, 0, 0, mj_u) else none) else
      (bif Nat.beq pc 16 then some (.aload_n 0, 1, 0, 0, 0, mj_u) else none)) else
     (bif Nat.blt pc 18 then (bif Nat.beq pc 17 then some (.iload_n 1, 1, 1, 0, 0, mj_u) else none) else
      (bif Nat.beq pc 18 then some (.iload_n 3, 1, 3, 0, 0, mj_u) else none))))) else
  (bif Nat.blt pc 33 then (bif Nat.blt pc 26 then (bif Nat.blt pc 22 then (bif Nat.beq pc 19 then some (.invokevirtual 96, 3, 94, 0, 770, mj_u) else none) else
     (bif Nat.blt pc 25 then (bif Nat.beq pc 22 then some (.ifCond .eq 11, 3, 33, 0, 0, mj_u) else none) else
      (bif Nat.beq pc 25 then some (.aload_n 0, 1, 0, 0, 0, mj_u) else none))) else
    (bif Nat.blt pc 27 then (bif Nat.beq pc 26 then some (.iload_n 3, 1, 3, 0, 0, mj_u) else none) else
     (bif Nat.blt pc 30 then (bif Nat.beq pc 27 then some (.invokevirtual 89, 3, 29, 0, 381, mj_u) else none) else
      (bif Nat.beq pc 30 then some (.goto 4, 3, 34, 0, 0, mj_u) else none)))) else
   (bif Nat.blt pc 36 then (bif Nat.blt pc 34 then (bif Nat.beq pc 33 then some (.iconst 0, 1, 0, 0, 0, .int 0) else none) else
     (bif Nat.blt pc 35 then (bif Nat.beq pc 34 then some (.iadd, 1, 0, 0, 0, mj_u) else none) else
      (bif Nat.beq pc 35 then some (.istore_n 2, 1, 2, 0, 0, mj_u) else none))) else
    (bif Nat.blt pc 42 then (bif Nat.blt pc 39 then (bif Nat.beq pc 36 then some (.iinc 3 1, 3, 3, 0, 0, .int 1) else none) else
      (bif Nat.beq pc 39 then some (.goto (-35), 3, 4, 0, 0, mj_u) else none)) else
     (bif Nat.blt pc 43 then (bif Nat.beq pc 42 then some (.iload_n 2, 1, 2, 0, 0, mj_u) else none) else
      (bif Nat.beq pc 43 then some (.ireturn, 1, 0, 0, 0, mj_u) else none)))))
def m_Hollows_contentOfLake : mj_M := (95, prog_5_method_10_code, 4, (Option.some Jvm.ClassFile.FieldType.int), 3, 1, 778, 776, 777, 48, 44, k_Hollows_contentOfLake)
/-- WatershedMap.contour(II)I -/
def k_W_contour : Nat → Option mj_I := fun pc =>
  bif Nat.blt pc 14 then (bif Nat.blt pc 8 then (bif Nat.blt pc 2 then (bif Nat.blt pc 1 then (bif Nat.beq pc 0 then some (.iload_n 1, 1, 1, 0, 0, mj_u) else none) else
     (bif Nat.beq pc 1 then some (.iconst 0, 1, 0, 0, 0, .int 0) else none)) else
    (bif Nat.blt pc 5 then (bif Nat.beq pc 2 then some (.sipush 999, 3, 0, 0, 0, .int 999) else none) else
     (bif Nat.beq pc 5 then some (.invokestatic 65, 3, 73, 0, 569, mj_u) else none))) else
   (bif Nat.blt pc 10 then (bif Nat.blt pc 9 then (bif Nat.beq pc 8 then some (.iload_n 2, 1, 2, 0, 0, mj_u) else none) else
     (bif Nat.beq pc 9 then some (.iconst 0, 1, 0, 0, 0, .int 0) else none)) else
    (bif Nat.blt pc 11 then (bif Nat.beq pc 10 then some (.iconst 2, 1, 0, 0, 0, .int 2) else none) else
     (bif Nat.beq pc 11 then some (.invokestatic 65, 3, 73, 0, 569, mj_u) else none)))) else
  (bif Nat.blt pc 22 then (bif Nat.blt pc 18 then (bif Nat.blt pc 15 then (bif Nat.beq pc 14 then some (.aload_n 0, 1, 0, 0, 0, mj_u) else none) else
     (bif Nat.beq pc 15 then some (.getfield 35, 3, 8, 3, 299, .null) else none)) else
    (bif Nat.blt pc 19 then (bif Nat.beq pc 18 then some (.iload_n 1, 1, 1, 0, 0, mj_u) else none) else
     (bif Nat.beq pc 19 then some (.invokevirtual 151, 3, 62, 0, 519, mj_u) else none))) else
   (bif Nat.blt pc 26 then (bif Nat.blt pc 23 then (bif Nat.beq pc 22 then some (.aload_n 0, 1, 0, 0, 0, mj_u) else none) else
     (bif Nat.beq pc 23 then some (.getfield 35, 3, 8, 3, 299, .null) else none)) else
    (bif Nat.blt pc 27 then (bif Nat.beq pc 26 then some (.iload_n 2, 1, 2, 0, 0, mj_u) else none) else
     (bif Nat.blt pc 30 then (bif Nat.beq pc 27 then some (.invokevirtual 154, 3, 69, 0, 549, mj_u) else none) else
      (bif Nat.beq pc 30 then some (.ireturn, 1, 0, 0, 0, mj_u) else none)))))
def m_W_contour : mj_M := (96, prog_1_method_22_code, 3, (Option.some Jvm.ClassFile.FieldType.int), 8, 2, 785, 783, 784, 45, 31, k_W_contour)
/-- WatershedMap.sees(IIIII)Z -/
def k_W_sees : Nat → Option mj_I := fun pc =>
  bif Nat.blt pc 16 then (bif Nat.blt pc 7 then (bif Nat.blt pc 2 then (bif Nat.blt pc 1 then (bif Nat.beq pc 0 then some (.aload_n 0, 1, 0, 0, 0, mj_u) else none) else
     (bif Nat.beq pc 1 then some (.iload_n 1, 1, 1, 0, 0, mj_u) else none)) else
    (bif Nat.blt pc 3 then (bif Nat.beq pc 2 then some (.iload_n 2, 1, 2, 0, 0, mj_u) else none) else
     (bif Nat.blt pc 6 then (bif Nat.beq pc 3 then some (.invokevirtual 72, 3, 75, 0, 647, mj_u) else none) else
      (bif Nat.beq pc 6 then some (.aload_n 0, 1, 0, 0, 0, mj_u) else none)))) else
   (bif Nat.blt pc 11 then (bif Nat.blt pc 9 then (bif Nat.beq pc 7 then some (.iload 4, 2, 4, 0, 0, mj_u) else none) else
     (bif Nat.beq pc 9 then some (.iload 5, 2, 5, 0, 0, mj_u) else none)) else
    (bif Nat.blt pc 14 then (bif Nat.beq pc 11 then some (.invokevirtual 72, 3, 75, 0, 647, mj_u) else none) else
     (bif Nat.blt pc 15 then (bif Nat.beq pc 14 then some (.iload_n 3, 1, 3, 0, 0, mj_u) else none) else
      (bif Nat.beq pc 15 then some (.iconst 0, 1, 0, 0, 0, .int 0) else none))))) else
  (bif Nat.blt pc 27 then (bif Nat.blt pc 22 then (bif Nat.blt pc 19 then (bif Nat.beq pc 16 then some (.sipush 500, 3, 0, 0, 0, .int 500) else none) else
     (bif Nat.beq pc 19 then some (.invokestatic 65, 3, 73, 0, 569, mj_u) else none)) else
    (bif Nat.blt pc 23 then (bif Nat.beq pc 22 then some (.aload_n 0, 1, 0, 0, 0, mj_u) else none) else
     (bif Nat.blt pc 26 then (bif Nat.beq pc 23 then some (.getfield 42, 3, 8, 4, 300, .null) else none) else
      (bif Nat.beq pc 26 then some (.iload_n 1, 1, 1, 0, 0, mj_u) else none)))) else
   (bif Nat.blt pc 31 then (bif Nat.blt pc 28 then (bif Nat.beq pc 27 then some (.iload_n 2, 1, 2, 0, 0, mj_u) else none) else
     (bif Nat.blt pc 29 then (bif Nat.beq pc 28 then some (.iload_n 3, 1, 3, 0, 0, mj_u) else none) else
      (bif Nat.beq pc 29 then some (.iload 4, 2, 4, 0, 0, mj_u) else none))) else
    (bif Nat.blt pc 33 then (bif Nat.beq pc 31 then some (.iload 5, 2, 5, 0, 0, mj_u) else none) else
     (bif Nat.blt pc 36 then (bif Nat.beq pc 33 then some (.invokevirtual 155, 3, 98, 0, 793, mj_u) else none) else
      (bif Nat.beq pc 36 then some (.ireturn, 1, 0, 0, 0, mj_u) else none)))))
def m_W_sees : mj_M := (97, prog_1_method_23_code, 6, (Option.some Jvm.ClassFile.FieldType.boolean), 8, 5, 792, 790, 791, 45, 37, k_W_sees)
/-- WatershedMap$Sight.reaches(IIIII)Z -/
def k_Sight_reaches : Nat → Option mj_I := fun pc =>
  bif Nat.blt pc 67 then (bif Nat.blt pc 30 then (bif Nat.blt pc 15 then (bif Nat.blt pc 6 then (bif Nat.blt pc 2 then (bif Nat.blt pc 1 then (bif Nat.beq pc 0 then some (.iload_n 1, 1, 1, 0, 0, mj_u) else none) else
       (bif Nat.beq pc 1 then some (.iload_n 2, 1, 2, 0, 0, mj_u) else none)) else
      (bif Nat.blt pc 4 then (bif Nat.beq pc 2 then some (.iload 4, 2, 4, 0, 0, mj_u) else none) else
       (bif Nat.beq pc 4 then some (.iload 5, 2, 5, 0, 0, mj_u) else none))) else
     (bif Nat.blt pc 11 then (bif Nat.blt pc 9 then (bif Nat.beq pc 6 then some (.invokestatic 13, 3, 82, 0, 797, mj_u) else none) else
       (bif Nat.beq pc 9 then some (.istore 6, 2, 6, 0, 0, mj_u) else none)) else
      (bif Nat.blt pc 12 then (bif Nat.beq pc 11 then some (.aload_n 0, 1, 0, 0, 0, mj_u) else none) else
       (bif Nat.beq pc 12 then some (.getfield 7, 3, 5, 0, 250, .null) else none)))) else
    (bif Nat.blt pc 23 then (bif Nat.blt pc 19 then (bif Nat.blt pc 18 then (bif Nat.beq pc 15 then some (.getfield 19, 3, 4, 0, 88, .null) else none) else
       (bif Nat.beq pc 18 then some (.aload_n 0, 1, 0, 0, 0, mj_u) else none)) else
      (bif Nat.blt pc 22 then (bif Nat.beq pc 19 then some (.getfield 7, 3, 5, 0, 250, .null) else none) else
       (bif Nat.beq pc 22 then some (.iload_n 1, 1, 1, 0, 0, mj_u) else none))) else
     (bif Nat.blt pc 27 then (bif Nat.blt pc 24 then (bif Nat.beq pc 23 then some (.iload_n 2, 1, 2, 0, 0, mj_u) else none) else
       (bif Nat.beq pc 24 then some (.invokevirtual 23, 3, 12, 0, 798, mj_u) else none)) else
      (bif Nat.blt pc 28 then (bif Nat.beq pc 27 then some (.iaload, 1, 0, 0, 0, mj_u) else none) else
       (bif Nat.blt pc 29 then (bif Nat.beq pc 28 then some (.iload_n 3, 1, 3, 0, 0, mj_u) else none) else
        (bif Nat.beq pc 29 then some (.iadd, 1, 0, 0, 0, mj_u) else none)))))) else
   (bif Nat.blt pc 50 then (bif Nat.blt pc 39 then (bif Nat.blt pc 33 then (bif Nat.blt pc 32 then (bif Nat.beq pc 30 then some (.istore 7, 2, 7, 0, 0, mj_u) else none) else
       (bif Nat.beq pc 32 then some (.aload_n 0, 1, 0, 0, 0, mj_u) else none)) else
      (bif Nat.blt pc 36 then (bif Nat.beq pc 33 then some (.getfield 7, 3, 5, 0, 250, .null) else none) else
       (bif Nat.beq pc 36 then some (.getfield 19, 3, 4, 0, 88, .null) else none))) else
     (bif Nat.blt pc 43 then (bif Nat.blt pc 40 then (bif Nat.beq pc 39 then some (.aload_n 0, 1, 0, 0, 0, mj_u) else none) else
       (bif Nat.beq pc 40 then some (.getfield 7, 3, 5, 0, 250, .null) else none)) else
      (bif Nat.blt pc 45 then (bif Nat.beq pc 43 then some (.iload 4, 2, 4, 0, 0, mj_u) else none) else
       (bif Nat.blt pc 47 then (bif Nat.beq pc 45 then some (.iload 5, 2, 5, 0, 0, mj_u) else none) else
        (bif Nat.beq pc 47 then some (.invokevirtual 23, 3, 12, 0, 798, mj_u) else none))))) else
    (bif Nat.blt pc 56 then (bif Nat.blt pc 53 then (bif Nat.blt pc 51 then (bif Nat.beq pc 50 then some (.iaload, 1, 0, 0, 0, mj_u) else none) else
       (bif Nat.beq pc 51 then some (.istore 8, 2, 8, 0, 0, mj_u) else none)) else
      (bif Nat.blt pc 54 then (bif Nat.beq pc 53 then some (.iconst 1, 1, 0, 0, 0, .int 1) else none) else
       (bif Nat.beq pc 54 then some (.istore 9, 2, 9, 0, 0, mj_u) else none))) else
     (bif Nat.blt pc 60 then (bif Nat.blt pc 58 then (bif Nat.beq pc 56 then some (.iload 9, 2, 9, 0, 0, mj_u) else none) else
       (bif Nat.beq pc 58 then some (.iload 6, 2, 6, 0, 0, mj_u) else none)) else
      (bif Nat.blt pc 63 then (bif Nat.beq pc 60 then some (.if_icmp .ge 70, 3, 130, 0, 0, mj_u) else none) else
       (bif Nat.blt pc 64 then (bif Nat.beq pc 63 then some (.aload_n 0, 1, 0, 0, 0, mj_u) else none) else
        (bif Nat.beq pc 64 then some (.getfield 7, 3, 5, 0, 250, .null) else none))))))) else
  (bif Nat.blt pc 102 then (bif Nat.blt pc 82 then (bif Nat.blt pc 74 then (bif Nat.blt pc 70 then (bif Nat.blt pc 68 then (bif Nat.beq pc 67 then some (.iload_n 1, 1, 1, 0, 0, mj_u) else none) else
       (bif Nat.beq pc 68 then some (.iload 4, 2, 4, 0, 0, mj_u) else none)) else
      (bif Nat.blt pc 72 then (bif Nat.beq pc 70 then some (.iload 9, 2, 9, 0, 0, mj_u) else none) else
       (bif Nat.beq pc 72 then some (.iload 6, 2, 6, 0, 0, mj_u) else none))) else
     (bif Nat.blt pc 78 then (bif Nat.blt pc 77 then (bif Nat.beq pc 74 then some (.invokestatic 27, 3, 83, 0, 799, mj_u) else none) else
       (bif Nat.beq pc 77 then some (.iload_n 2, 1, 2, 0, 0, mj_u) else none)) else
      (bif Nat.blt pc 80 then (bif Nat.beq pc 78 then some (.iload 5, 2, 5, 0, 0, mj_u) else none) else
       (bif Nat.beq pc 80 then some (.iload 9, 2, 9, 0, 0, mj_u) else none)))) else
    (bif Nat.blt pc 92 then (bif Nat.blt pc 87 then (bif Nat.blt pc 84 then (bif Nat.beq pc 82 then some (.iload 6, 2, 6, 0, 0, mj_u) else none) else
       (bif Nat.beq pc 84 then some (.invokestatic 27, 3, 83, 0, 799, mj_u) else none)) else
      (bif Nat.blt pc 90 then (bif Nat.beq pc 87 then some (.invokevirtual 23, 3, 12, 0, 798, mj_u) else none) else
       (bif Nat.beq pc 90 then some (.istore 10, 2, 10, 0, 0, mj_u) else none))) else
     (bif Nat.blt pc 96 then (bif Nat.blt pc 93 then (bif Nat.beq pc 92 then some (.aload_n 0, 1, 0, 0, 0, mj_u) else none) else
       (bif Nat.beq pc 93 then some (.getfield 7, 3, 5, 0, 250, .null) else none)) else
      (bif Nat.blt pc 99 then (bif Nat.beq pc 96 then some (.getfield 19, 3, 4, 0, 88, .null) else none) else
       (bif Nat.blt pc 101 then (bif Nat.beq pc 99 then some (.iload 10, 2, 10, 0, 0, mj_u) else none) else
        (bif Nat.beq pc 101 then some (.iaload, 1, 0, 0, 0, mj_u) else none)))))) else
   (bif Nat.blt pc 117 then (bif Nat.blt pc 109 then (bif Nat.blt pc 105 then (bif Nat.blt pc 104 then (bif Nat.beq pc 102 then some (.iload 6, 2, 6, 0, 0, mj_u) else none) else
       (bif Nat.beq pc 104 then some (.imul, 1, 0, 0, 0, mj_u) else none)) else
      (bif Nat.blt pc 107 then (bif Nat.beq pc 105 then some (.iload 7, 2, 7, 0, 0, mj_u) else none) else
       (bif Nat.beq pc 107 then some (.iload 6, 2, 6, 0, 0, mj_u) else none))) else
     (bif Nat.blt pc 112 then (bif Nat.blt pc 111 then (bif Nat.beq pc 109 then some (.iload 9, 2, 9, 0, 0, mj_u) else none) else
       (bif Nat.beq pc 111 then some (.isub, 1, 0, 0, 0, mj_u) else none)) else
      (bif Nat.blt pc 113 then (bif Nat.beq pc 112 then some (.imul, 1, 0, 0, 0, mj_u) else none) else
       (bif Nat.blt pc 115 then (bif Nat.beq pc 113 then some (.iload 8, 2, 8, 0, 0, mj_u) else none) else
        (bif Nat.beq pc 115 then some (.iload 9, 2, 9, 0, 0, mj_u) else none))))) else
    (bif Nat.blt pc 123 then (bif Nat.blt pc 119 then (bif Nat.blt pc 118 then (bif Nat.beq pc 117 then some (.imul, 1, 0, 0, 0, mj_u) else none) else
       (bif Nat.beq pc 118 then some (.iadd, 1, 0, 0, 0, mj_u) else none)) else
      (bif Nat.blt pc 122 then (bif Nat.beq pc 119 then some (.if_icmp .le 5, 3, 124, 0, 0, mj_u) else none) else
       (bif Nat.beq pc 122 then some (.iconst 0, 1, 0, 0, 0, .int 0) else none))) else
     (bif Nat.blt pc 127 then (bif Nat.blt pc 124 then (bif Nat.beq pc 123 then some (.ireturn, 1, 0, 0, 0, mj_u) else none) else
       (bif Nat.beq pc 124 then some (.iinc 9 1, 3, 9, 0, 0, .int 1) else none)) else
      (bif Nat.blt pc 130 then (bif Nat.beq pc 127 then some (.goto (-71), 3, 56, 0, 0, mj_u) else none) else
       (bif Nat.blt pc 131 then (bif Nat.beq pc 130 then some (.iconst 1, 1, 0, 0, 0, .int 1) else none) else
        (bif Nat.beq pc 131 then some (.ireturn, 1, 0, 0, 0, mj_u) else none)))))))
def m_Sight_reaches : mj_M := (98, prog_7_method_2_code, 11, (Option.some Jvm.ClassFile.FieldType.boolean), 5, 5, 796, 794, 795, 52, 132, k_Sight_reaches)
/-- WatershedMap.seen(III)I -/
def k_W_seen : Nat → Option mj_I := fun pc =>
  bif Nat.blt pc 11 then (bif Nat.blt pc 3 then (bif Nat.blt pc 1 then (bif Nat.beq pc 0 then some (.aload_n 0, 1, 0, 0, 0, mj_u) else none) else
    (bif Nat.blt pc 2 then (bif Nat.beq pc 1 then some (.iload_n 1, 1, 1, 0, 0, mj_u) else none) else
     (bif Nat.beq pc 2 then some (.iload_n 2, 1, 2, 0, 0, mj_u) else none))) else
   (bif Nat.blt pc 7 then (bif Nat.blt pc 6 then (bif Nat.beq pc 3 then some (.invokevirtual 72, 3, 75, 0, 647, mj_u) else none) else
     (bif Nat.beq pc 6 then some (.iload_n 3, 1, 3, 0, 0, mj_u) else none)) else
    (bif Nat.blt pc 8 then (bif Nat.beq pc 7 then some (.iconst 0, 1, 0, 0, 0, .int 0) else none) else
     (bif Nat.beq pc 8 then some (.sipush 500, 3, 0, 0, 0, .int 500) else none)))) else
  (bif Nat.blt pc 19 then (bif Nat.blt pc 15 then (bif Nat.blt pc 14 then (bif Nat.beq pc 11 then some (.invokestatic 65, 3, 73, 0, 569, mj_u) else none) else
     (bif Nat.beq pc 14 then some (.aload_n 0, 1, 0, 0, 0, mj_u) else none)) else
    (bif Nat.blt pc 18 then (bif Nat.beq pc 15 then some (.getfield 42, 3, 8, 4, 300, .null) else none) else
     (bif Nat.beq pc 18 then some (.iload_n 1, 1, 1, 0, 0, mj_u) else none))) else
   (bif Nat.blt pc 21 then (bif Nat.blt pc 20 then (bif Nat.beq pc 19 then some (.iload_n 2, 1, 2, 0, 0, mj_u) else none) else
     (bif Nat.beq pc 20 then some (.iload_n 3, 1, 3, 0, 0, mj_u) else none)) else
    (bif Nat.blt pc 24 then (bif Nat.beq pc 21 then some (.invokevirtual 159, 3, 100, 0, 807, mj_u) else none) else
     (bif Nat.beq pc 24 then some (.ireturn, 1, 0, 0, 0, mj_u) else none))))
def m_W_seen : mj_M := (99, prog_1_method_24_code, 4, (Option.some Jvm.ClassFile.FieldType.int), 8, 3, 806, 804, 805, 45, 25, k_W_seen)
/-- WatershedMap$Sight.countFrom(III)I -/
def k_Sight_countFrom : Nat → Option mj_I := fun pc =>
  bif Nat.blt pc 36 then (bif Nat.blt pc 18 then (bif Nat.blt pc 6 then (bif Nat.blt pc 3 then (bif Nat.blt pc 1 then (bif Nat.beq pc 0 then some (.iconst 0, 1, 0, 0, 0, .int 0) else none) else
      (bif Nat.beq pc 1 then some (.istore 4, 2, 4, 0, 0, mj_u) else none)) else
     (bif Nat.blt pc 4 then (bif Nat.beq pc 3 then some (.iconst 0, 1, 0, 0, 0, .int 0) else none) else
      (bif Nat.beq pc 4 then some (.istore 5, 2, 5, 0, 0, mj_u) else none))) else
    (bif Nat.blt pc 9 then (bif Nat.blt pc 8 then (bif Nat.beq pc 6 then some (.iload 5, 2, 5, 0, 0, mj_u) else none) else
      (bif Nat.beq pc 8 then some (.aload_n 0, 1, 0, 0, 0, mj_u) else none)) else
     (bif Nat.blt pc 12 then (bif Nat.beq pc 9 then some (.getfield 7, 3, 5, 0, 250, .null) else none) else
      (bif Nat.blt pc 15 then (bif Nat.beq pc 12 then some (.getfield 30, 3, 4, 4, 101, .int 0) else none) else
       (bif Nat.beq pc 15 then some (.if_icmp .ge 54, 3, 69, 0, 0, mj_u) else none))))) else
   (bif Nat.blt pc 24 then (bif Nat.blt pc 21 then (bif Nat.blt pc 19 then (bif Nat.beq pc 18 then some (.iconst 0, 1, 0, 0, 0, .int 0) else none) else
      (bif Nat.beq pc 19 then some (.istore 6, 2, 6, 0, 0, mj_u) else none)) else
     (bif Nat.blt pc 23 then (bif Nat.beq pc 21 then some (.iload 6, 2, 6, 0, 0, mj_u) else none) else
      (bif Nat.beq pc 23 then some (.aload_n 0, 1, 0, 0, 0, mj_u) else none))) else
    (bif Nat.blt pc 30 then (bif Nat.blt pc 27 then (bif Nat.beq pc 24 then some (.getfield 7, 3, 5, 0, 250, .null) else none) else
      (bif Nat.beq pc 27 then some (.getfield 34, 3, 4, 3, 97, .int 0) else none)) else
     (bif Nat.blt pc 33 then (bif Nat.beq pc 30 then some (.if_icmp .ge 33, 3, 63, 0, 0, mj_u) else none) else
      (bif Nat.blt pc 35 then (bif Nat.beq pc 33 then some (.iload 4, 2, 4, 0, 0, mj_u) else none) else
       (bif Nat.beq pc 35 then some (.aload_n 0, 1, 0, 0, 0, mj_u) else none)))))) else
  (bif Nat.blt pc 53 then (bif Nat.blt pc 41 then (bif Nat.blt pc 38 then (bif Nat.blt pc 37 then (bif Nat.beq pc 36 then some (.iload_n 1, 1, 1, 0, 0, mj_u) else none) else
      (bif Nat.beq pc 37 then some (.iload_n 2, 1, 2, 0, 0, mj_u) else none)) else
     (bif Nat.blt pc 39 then (bif Nat.beq pc 38 then some (.iload_n 3, 1, 3, 0, 0, mj_u) else none) else
      (bif Nat.beq pc 39 then some (.iload 6, 2, 6, 0, 0, mj_u) else none))) else
    (bif Nat.blt pc 46 then (bif Nat.blt pc 43 then (bif Nat.beq pc 41 then some (.iload 5, 2, 5, 0, 0, mj_u) else none) else
      (bif Nat.beq pc 43 then some (.invokevirtual 37, 3, 98, 0, 811, mj_u) else none)) else
     (bif Nat.blt pc 49 then (bif Nat.beq pc 46 then some (.ifCond .eq 7, 3, 53, 0, 0, mj_u) else none) else
      (bif Nat.blt pc 50 then (bif Nat.beq pc 49 then some (.iconst 1, 1, 0, 0, 0, .int 1) else none) else
       (bif Nat.beq pc 50 then some (.goto 4, 3, 54, 0, 0, mj_u) else none))))) else
   (bif Nat.blt pc 60 then (bif Nat.blt pc 55 then (bif Nat.blt pc 54 then (bif Nat.beq pc 53 then some (.iconst 0, 1, 0, 0, 0, .int 0) else none) else
      (bif Nat.beq pc 54 then some (.iadd, 1, 0, 0, 0, mj_u) else none)) else
     (bif Nat.blt pc 57 then (bif Nat.beq pc 55 then some (.istore 4, 2, 4, 0, 0, mj_u) else none) else
      (bif Nat.beq pc 57 then some (.iinc 6 1, 3, 6, 0, 0, .int 1) else none))) else
    (bif Nat.blt pc 66 then (bif Nat.blt pc 63 then (bif Nat.beq pc 60 then some (.goto (-39), 3, 21, 0, 0, mj_u) else none) else
      (bif Nat.beq pc 63 then some (.iinc 5 1, 3, 5, 0, 0, .int 1) else none)) else
     (bif Nat.blt pc 69 then (bif Nat.beq pc 66 then some (.goto (-60), 3, 6, 0, 0, mj_u) else none) else
      (bif Nat.blt pc 71 then (bif Nat.beq pc 69 then some (.iload 4, 2, 4, 0, 0, mj_u) else none) else
       (bif Nat.beq pc 71 then some (.ireturn, 1, 0, 0, 0, mj_u) else none))))))
def m_Sight_countFrom : mj_M := (100, prog_7_method_3_code, 7, (Option.some Jvm.ClassFile.FieldType.int), 5, 3, 810, 808, 809, 52, 72, k_Sight_countFrom)
/-- WatershedMap.takes(IIII)I -/
def k_W_takes : Nat → Option mj_I := fun pc =>
  bif Nat.blt pc 22 then (bif Nat.blt pc 8 then (bif Nat.blt pc 3 then (bif Nat.blt pc 1 then (bif Nat.beq pc 0 then some (.aload_n 0, 1, 0, 0, 0, mj_u) else none) else
     (bif Nat.blt pc 2 then (bif Nat.beq pc 1 then some (.iload_n 1, 1, 1, 0, 0, mj_u) else none) else
      (bif Nat.beq pc 2 then some (.iload_n 2, 1, 2, 0, 0, mj_u) else none))) else
    (bif Nat.blt pc 6 then (bif Nat.beq pc 3 then some (.invokevirtual 72, 3, 75, 0, 647, mj_u) else none) else
     (bif Nat.blt pc 7 then (bif Nat.beq pc 6 then some (.aload_n 0, 1, 0, 0, 0, mj_u) else none) else
      (bif Nat.beq pc 7 then some (.iload_n 3, 1, 3, 0, 0, mj_u) else none)))) else
   (bif Nat.blt pc 14 then (bif Nat.blt pc 10 then (bif Nat.beq pc 8 then some (.iload 4, 2, 4, 0, 0, mj_u) else none) else
     (bif Nat.blt pc 13 then (bif Nat.beq pc 10 then some (.invokevirtual 72, 3, 75, 0, 647, mj_u) else none) else
      (bif Nat.beq pc 13 then some (.aload_n 0, 1, 0, 0, 0, mj_u) else none))) else
    (bif Nat.blt pc 18 then (bif Nat.blt pc 17 then (bif Nat.beq pc 14 then some (.getfield 49, 3, 8, 5, 301, .null) else none) else
      (bif Nat.beq pc 17 then some (.aload_n 0, 1, 0, 0, 0, mj_u) else none)) else
     (bif Nat.blt pc 21 then (bif Nat.beq pc 18 then some (.getfield 10, 3, 8, 0, 296, .null) else none) else
      (bif Nat.beq pc 21 then some (.iload_n 1, 1, 1, 0, 0, mj_u) else none))))) else
  (bif Nat.blt pc 36 then (bif Nat.blt pc 29 then (bif Nat.blt pc 23 then (bif Nat.beq pc 22 then some (.iload_n 2, 1, 2, 0, 0, mj_u) else none) else
     (bif Nat.blt pc 26 then (bif Nat.beq pc 23 then some (.invokevirtual 75, 3, 12, 0, 668, mj_u) else none) else
      (bif Nat.beq pc 26 then some (.invokevirtual 163, 3, 102, 0, 819, mj_u) else none))) else
    (bif Nat.blt pc 30 then (bif Nat.beq pc 29 then some (.aload_n 0, 1, 0, 0, 0, mj_u) else none) else
     (bif Nat.blt pc 33 then (bif Nat.beq pc 30 then some (.getfield 49, 3, 8, 5, 301, .null) else none) else
      (bif Nat.beq pc 33 then some (.getfield 166, 3, 7, 1, 264, .null) else none)))) else
   (bif Nat.blt pc 41 then (bif Nat.blt pc 37 then (bif Nat.beq pc 36 then some (.aload_n 0, 1, 0, 0, 0, mj_u) else none) else
     (bif Nat.blt pc 40 then (bif Nat.beq pc 37 then some (.getfield 10, 3, 8, 0, 296, .null) else none) else
      (bif Nat.beq pc 40 then some (.iload_n 3, 1, 3, 0, 0, mj_u) else none))) else
    (bif Nat.blt pc 46 then (bif Nat.blt pc 43 then (bif Nat.beq pc 41 then some (.iload 4, 2, 4, 0, 0, mj_u) else none) else
      (bif Nat.beq pc 43 then some (.invokevirtual 75, 3, 12, 0, 668, mj_u) else none)) else
     (bif Nat.blt pc 47 then (bif Nat.beq pc 46 then some (.iaload, 1, 0, 0, 0, mj_u) else none) else
      (bif Nat.beq pc 47 then some (.ireturn, 1, 0, 0, 0, mj_u) else none)))))
def m_W_takes : mj_M := (101, prog_1_method_25_code, 5, (Option.some Jvm.ClassFile.FieldType.int), 8, 4, 818, 816, 817, 45, 48, k_W_takes)
/-- WatershedMap$Ways.spreadFrom(I)V -/
def k_Ways_spreadFrom : Nat → Option mj_I := fun pc =>
  bif Nat.blt pc 33 then (bif Nat.blt pc 20 then (bif Nat.blt pc 9 then (bif Nat.blt pc 4 then (bif Nat.blt pc 1 then (bif Nat.beq pc 0 then some (.aload_n 0, 1, 0, 0, 0, mj_u) else none) else
      (bif Nat.beq pc 1 then some (.getfield 9, 3, 7, 1, 263, .null) else none)) else
     (bif Nat.blt pc 6 then (bif Nat.beq pc 4 then some (.ldc 26, 2, 0, 0, 823, .int 1000000) else none) else
      (bif Nat.beq pc 6 then some (.invokestatic 27, 3, 10, 0, 824, mj_u) else none))) else
    (bif Nat.blt pc 13 then (bif Nat.blt pc 10 then (bif Nat.beq pc 9 then some (.aload_n 0, 1, 0, 0, 0, mj_u) else none) else
      (bif Nat.beq pc 10 then some (.getfield 18, 3, 7, 2, 265, .null) else none)) else
     (bif Nat.blt pc 16 then (bif Nat.beq pc 13 then some (.invokevirtual 33, 3, 21, 0, 825, mj_u) else none) else
      (bif Nat.blt pc 17 then (bif Nat.beq pc 16 then some (.aload_n 0, 1, 0, 0, 0, mj_u) else none) else
       (bif Nat.beq pc 17 then some (.getfield 9, 3, 7, 1, 263, .null) else none))))) else
   (bif Nat.blt pc 24 then (bif Nat.blt pc 22 then (bif Nat.blt pc 21 then (bif Nat.beq pc 20 then some (.iload_n 1, 1, 1, 0, 0, mj_u) else none) else
      (bif Nat.beq pc 21 then some (.iconst 0, 1, 0, 0, 0, .int 0) else none)) else
     (bif Nat.blt pc 23 then (bif Nat.beq pc 22 then some (.iastore, 1, 0, 0, 0, mj_u) else none) else
      (bif Nat.beq pc 23 then some (.aload_n 0, 1, 0, 0, 0, mj_u) else none))) else
    (bif Nat.blt pc 28 then (bif Nat.blt pc 27 then (bif Nat.beq pc 24 then some (.getfield 18, 3, 7, 2, 265, .null) else none) else
      (bif Nat.beq pc 27 then some (.iload_n 1, 1, 1, 0, 0, mj_u) else none)) else
     (bif Nat.blt pc 31 then (bif Nat.beq pc 28 then some (.invokevirtual 36, 3, 23, 0, 826, mj_u) else none) else
      (bif Nat.blt pc 32 then (bif Nat.beq pc 31 then some (.iconst 0, 1, 0, 0, 0, .int 0) else none) else
       (bif Nat.beq pc 32 then some (.istore_n 2, 1, 2, 0, 0, mj_u) else none)))))) else
  (bif Nat.blt pc 52 then (bif Nat.blt pc 41 then (bif Nat.blt pc 35 then (bif Nat.blt pc 34 then (bif Nat.beq pc 33 then some (.iload_n 2, 1, 2, 0, 0, mj_u) else none) else
      (bif Nat.beq pc 34 then some (.aload_n 0, 1, 0, 0, 0, mj_u) else none)) else
     (bif Nat.blt pc 38 then (bif Nat.beq pc 35 then some (.getfield 22, 3, 7, 0, 262, .null) else none) else
      (bif Nat.beq pc 38 then some (.getfield 40, 3, 4, 5, 106, .int 0) else none))) else
    (bif Nat.blt pc 45 then (bif Nat.blt pc 44 then (bif Nat.beq pc 41 then some (.if_icmp .ge 30, 3, 71, 0, 0, mj_u) else none) else
      (bif Nat.beq pc 44 then some (.aload_n 0, 1, 0, 0, 0, mj_u) else none)) else
     (bif Nat.blt pc 48 then (bif Nat.beq pc 45 then some (.getfield 18, 3, 7, 2, 265, .null) else none) else
      (bif Nat.blt pc 49 then (bif Nat.beq pc 48 then some (.aload_n 0, 1, 0, 0, 0, mj_u) else none) else
       (bif Nat.beq pc 49 then some (.getfield 9, 3, 7, 1, 263, .null) else none))))) else
   (bif Nat.blt pc 61 then (bif Nat.blt pc 56 then (bif Nat.blt pc 55 then (bif Nat.beq pc 52 then some (.invokevirtual 46, 3, 24, 0, 827, mj_u) else none) else
      (bif Nat.beq pc 55 then some (.istore_n 3, 1, 3, 0, 0, mj_u) else none)) else
     (bif Nat.blt pc 57 then (bif Nat.beq pc 56 then some (.iload_n 3, 1, 3, 0, 0, mj_u) else none) else
      (bif Nat.blt pc 60 then (bif Nat.beq pc 57 then some (.ifCond .lt 8, 3, 65, 0, 0, mj_u) else none) else
       (bif Nat.beq pc 60 then some (.aload_n 0, 1, 0, 0, 0, mj_u) else none)))) else
    (bif Nat.blt pc 65 then (bif Nat.blt pc 62 then (bif Nat.beq pc 61 then some (.iload_n 3, 1, 3, 0, 0, mj_u) else none) else
      (bif Nat.beq pc 62 then some (.invokevirtual 50, 3, 103, 0, 828, mj_u) else none)) else
     (bif Nat.blt pc 68 then (bif Nat.beq pc 65 then some (.iinc 2 1, 3, 2, 0, 0, .int 1) else none) else
      (bif Nat.blt pc 71 then (bif Nat.beq pc 68 then some (.goto (-35), 3, 33, 0, 0, mj_u) else none) else
       (bif Nat.beq pc 71 then some (.return_, 1, 0, 0, 0, mj_u) else none))))))
def m_Ways_spreadFrom : mj_M := (102, prog_9_method_2_code, 4, (Option.none : Option Jvm.ClassFile.FieldType), 7, 1, 822, 820, 821, 53, 72, k_Ways_spreadFrom)
/-- WatershedMap$Ways.spread(I)V -/
def k_Ways_spread : Nat → Option mj_I := fun pc =>
  bif Nat.blt pc 42 then (bif Nat.blt pc 22 then (bif Nat.blt pc 9 then (bif Nat.blt pc 3 then (bif Nat.blt pc 1 then (bif Nat.beq pc 0 then some (.iconst 0, 1, 0, 0, 0, .int 0) else none) else
      (bif Nat.blt pc 2 then (bif Nat.beq pc 1 then some (.istore_n 2, 1, 2, 0, 0, mj_u) else none) else
       (bif Nat.beq pc 2 then some (.iload_n 2, 1, 2, 0, 0, mj_u) else none))) else
     (bif Nat.blt pc 5 then (bif Nat.beq pc 3 then some (.bipush 8, 2, 0, 0, 0, .int 8) else none) else
      (bif Nat.blt pc 8 then (bif Nat.beq pc 5 then some (.if_icmp .ge 85, 3, 90, 0, 0, mj_u) else none) else
       (bif Nat.beq pc 8 then some (.aload_n 0, 1, 0, 0, 0, mj_u) else none)))) else
    (bif Nat.blt pc 14 then (bif Nat.blt pc 12 then (bif Nat.beq pc 9 then some (.getfield 22, 3, 7, 0, 262, .null) else none) else
      (bif Nat.blt pc 13 then (bif Nat.beq pc 12 then some (.iload_n 1, 1, 1, 0, 0, mj_u) else none) else
       (bif Nat.beq pc 13 then some (.iload_n 2, 1, 2, 0, 0, mj_u) else none))) else
     (bif Nat.blt pc 18 then (bif Nat.blt pc 17 then (bif Nat.beq pc 14 then some (.invokevirtual 53, 3, 16, 0, 832, mj_u) else none) else
       (bif Nat.beq pc 17 then some (.istore_n 3, 1, 3, 0, 0, mj_u) else none)) else
      (bif Nat.blt pc 19 then (bif Nat.beq pc 18 then some (.iload_n 3, 1, 3, 0, 0, mj_u) else none) else
       (bif Nat.beq pc 19 then some (.ifCond .lt 65, 3, 84, 0, 0, mj_u) else none))))) else
   (bif Nat.blt pc 31 then (bif Nat.blt pc 27 then (bif Nat.blt pc 23 then (bif Nat.beq pc 22 then some (.aload_n 0, 1, 0, 0, 0, mj_u) else none) else
      (bif Nat.blt pc 26 then (bif Nat.beq pc 23 then some (.getfield 9, 3, 7, 1, 263, .null) else none) else
       (bif Nat.beq pc 26 then some (.iload_n 1, 1, 1, 0, 0, mj_u) else none))) else
     (bif Nat.blt pc 29 then (bif Nat.blt pc 28 then (bif Nat.beq pc 27 then some (.iaload, 1, 0, 0, 0, mj_u) else none) else
       (bif Nat.beq pc 28 then some (.aload_n 0, 1, 0, 0, 0, mj_u) else none)) else
      (bif Nat.blt pc 30 then (bif Nat.beq pc 29 then some (.iload_n 1, 1, 1, 0, 0, mj_u) else none) else
       (bif Nat.beq pc 30 then some (.iload_n 3, 1, 3, 0, 0, mj_u) else none)))) else
    (bif Nat.blt pc 36 then (bif Nat.blt pc 32 then (bif Nat.beq pc 31 then some (.iload_n 2, 1, 2, 0, 0, mj_u) else none) else
      (bif Nat.blt pc 35 then (bif Nat.beq pc 32 then some (.invokevirtual 57, 3, 104, 0, 833, mj_u) else none) else
       (bif Nat.beq pc 35 then some (.iadd, 1, 0, 0, 0, mj_u) else none))) else
     (bif Nat.blt pc 40 then (bif Nat.blt pc 37 then (bif Nat.beq pc 36 then some (.aload_n 0, 1, 0, 0, 0, mj_u) else none) else
       (bif Nat.beq pc 37 then some (.getfield 9, 3, 7, 1, 263, .null) else none)) else
      (bif Nat.blt pc 41 then (bif Nat.beq pc 40 then some (.iload_n 3, 1, 3, 0, 0, mj_u) else none) else
       (bif Nat.beq pc 41 then some (.iaload, 1, 0, 0, 0, mj_u) else none)))))) else
  (bif Nat.blt pc 69 then (bif Nat.blt pc 56 then (bif Nat.blt pc 49 then (bif Nat.blt pc 45 then (bif Nat.beq pc 42 then some (.if_icmp .ge 42, 3, 84, 0, 0, mj_u) else none) else
      (bif Nat.blt pc 46 then (bif Nat.beq pc 45 then some (.aload_n 0, 1, 0, 0, 0, mj_u) else none) else
       (bif Nat.beq pc 46 then some (.getfield 9, 3, 7, 1, 263, .null) else none))) else
     (bif Nat.blt pc 51 then (bif Nat.blt pc 50 then (bif Nat.beq pc 49 then some (.iload_n 3, 1, 3, 0, 0, mj_u) else none) else
       (bif Nat.beq pc 50 then some (.iaload, 1, 0, 0, 0, mj_u) else none)) else
      (bif Nat.blt pc 53 then (bif Nat.beq pc 51 then some (.ldc 26, 2, 0, 0, 823, .int 1000000) else none) else
       (bif Nat.beq pc 53 then some (.if_icmp .ne 11, 3, 64, 0, 0, mj_u) else none)))) else
    (bif Nat.blt pc 61 then (bif Nat.blt pc 57 then (bif Nat.beq pc 56 then some (.aload_n 0, 1, 0, 0, 0, mj_u) else none) else
      (bif Nat.blt pc 60 then (bif Nat.beq pc 57 then some (.getfield 18, 3, 7, 2, 265, .null) else none) else
       (bif Nat.beq pc 60 then some (.iload_n 3, 1, 3, 0, 0, mj_u) else none))) else
     (bif Nat.blt pc 65 then (bif Nat.blt pc 64 then (bif Nat.beq pc 61 then some (.invokevirtual 36, 3, 23, 0, 826, mj_u) else none) else
       (bif Nat.beq pc 64 then some (.aload_n 0, 1, 0, 0, 0, mj_u) else none)) else
      (bif Nat.blt pc 68 then (bif Nat.beq pc 65 then some (.getfield 9, 3, 7, 1, 263, .null) else none) else
       (bif Nat.beq pc 68 then some (.iload_n 3, 1, 3, 0, 0, mj_u) else none))))) else
   (bif Nat.blt pc 78 then (bif Nat.blt pc 74 then (bif Nat.blt pc 70 then (bif Nat.beq pc 69 then some (.aload_n 0, 1, 0, 0, 0, mj_u) else none) else
      (bif Nat.blt pc 73 then (bif Nat.beq pc 70 then some (.getfield 9, 3, 7, 1, 263, .null) else none) else
       (bif Nat.beq pc 73 then some (.iload_n 1, 1, 1, 0, 0, mj_u) else none))) else
     (bif Nat.blt pc 76 then (bif Nat.blt pc 75 then (bif Nat.beq pc 74 then some (.iaload, 1, 0, 0, 0, mj_u) else none) else
       (bif Nat.beq pc 75 then some (.aload_n 0, 1, 0, 0, 0, mj_u) else none)) else
      (bif Nat.blt pc 77 then (bif Nat.beq pc 76 then some (.iload_n 1, 1, 1, 0, 0, mj_u) else none) else
       (bif Nat.beq pc 77 then some (.iload_n 3, 1, 3, 0, 0, mj_u) else none)))) else
    (bif Nat.blt pc 83 then (bif Nat.blt pc 79 then (bif Nat.beq pc 78 then some (.iload_n 2, 1, 2, 0, 0, mj_u) else none) else
      (bif Nat.blt pc 82 then (bif Nat.beq pc 79 then some (.invokevirtual 57, 3, 104, 0, 833, mj_u) else none) else
       (bif Nat.beq pc 82 then some (.iadd, 1, 0, 0, 0, mj_u) else none))) else
     (bif Nat.blt pc 87 then (bif Nat.blt pc 84 then (bif Nat.beq pc 83 then some (.iastore, 1, 0, 0, 0, mj_u) else none) else
       (bif Nat.beq pc 84 then some (.iinc 2 1, 3, 2, 0, 0, .int 1) else none)) else
      (bif Nat.blt pc 90 then (bif Nat.beq pc 87 then some (.goto (-85), 3, 2, 0, 0, mj_u) else none) else
       (bif Nat.beq pc 90 then some (.return_, 1, 0, 0, 0, mj_u) else none))))))
def m_Ways_spread : mj_M := (103, prog_9_method_3_code, 4, (Option.none : Option Jvm.ClassFile.FieldType), 7, 1, 831, 830, 23, 53, 91, k_Ways_spread)
/-- WatershedMap$Ways.step(III)I -/
def k_Ways_step : Nat → Option mj_I := fun pc =>
  bif Nat.blt pc 14 then (bif Nat.blt pc 7 then (bif Nat.blt pc 1 then (bif Nat.beq pc 0 then some (.iload_n 3, 1, 3, 0, 0, mj_u) else none) else
    (bif Nat.blt pc 4 then (bif Nat.beq pc 1 then some (.invokestatic 61, 3, 37, 0, 837, mj_u) else none) else
     (bif Nat.beq pc 4 then some (.ifCond .eq 8, 3, 12, 0, 0, mj_u) else none))) else
   (bif Nat.blt pc 9 then (bif Nat.beq pc 7 then some (.bipush 14, 2, 0, 0, 0, .int 14) else none) else
    (bif Nat.blt pc 12 then (bif Nat.beq pc 9 then some (.goto 5, 3, 14, 0, 0, mj_u) else none) else
     (bif Nat.beq pc 12 then some (.bipush 10, 2, 0, 0, 0, .int 10) else none)))) else
  (bif Nat.blt pc 19 then (bif Nat.blt pc 15 then (bif Nat.beq pc 14 then some (.aload_n 0, 1, 0, 0, 0, mj_u) else none) else
    (bif Nat.blt pc 18 then (bif Nat.beq pc 15 then some (.getfield 22, 3, 7, 0, 262, .null) else none) else
     (bif Nat.beq pc 18 then some (.iload_n 1, 1, 1, 0, 0, mj_u) else none))) else
   (bif Nat.blt pc 23 then (bif Nat.blt pc 20 then (bif Nat.beq pc 19 then some (.iload_n 2, 1, 2, 0, 0, mj_u) else none) else
     (bif Nat.beq pc 20 then some (.invokevirtual 65, 3, 53, 0, 838, mj_u) else none)) else
    (bif Nat.blt pc 24 then (bif Nat.beq pc 23 then some (.iadd, 1, 0, 0, 0, mj_u) else none) else
     (bif Nat.beq pc 24 then some (.ireturn, 1, 0, 0, 0, mj_u) else none))))
def m_Ways_step : mj_M := (104, prog_9_method_4_code, 4, (Option.some Jvm.ClassFile.FieldType.int), 7, 3, 836, 835, 24, 53, 25, k_Ways_step)
/-- WatershedMap.way(IIIII)I -/
def k_W_way : Nat → Option mj_I := fun pc =>
  bif Nat.blt pc 33 then (bif Nat.blt pc 15 then (bif Nat.blt pc 6 then (bif Nat.blt pc 2 then (bif Nat.blt pc 1 then (bif Nat.beq pc 0 then some (.aload_n 0, 1, 0, 0, 0, mj_u) else none) else
      (bif Nat.beq pc 1 then some (.iload_n 1, 1, 1, 0, 0, mj_u) else none)) else
     (bif Nat.blt pc 3 then (bif Nat.beq pc 2 then some (.iload_n 2, 1, 2, 0, 0, mj_u) else none) else
      (bif Nat.beq pc 3 then some (.invokevirtual 72, 3, 75, 0, 647, mj_u) else none))) else
    (bif Nat.blt pc 8 then (bif Nat.blt pc 7 then (bif Nat.beq pc 6 then some (.aload_n 0, 1, 0, 0, 0, mj_u) else none) else
      (bif Nat.beq pc 7 then some (.iload_n 3, 1, 3, 0, 0, mj_u) else none)) else
     (bif Nat.blt pc 10 then (bif Nat.beq pc 8 then some (.iload 4, 2, 4, 0, 0, mj_u) else none) else
      (bif Nat.blt pc 13 then (bif Nat.beq pc 10 then some (.invokevirtual 72, 3, 75, 0, 647, mj_u) else none) else
       (bif Nat.beq pc 13 then some (.iload 5, 2, 5, 0, 0, mj_u) else none))))) else
   (bif Nat.blt pc 24 then (bif Nat.blt pc 21 then (bif Nat.blt pc 18 then (bif Nat.beq pc 15 then some (.ifCond .ge 13, 3, 28, 0, 0, mj_u) else none) else
      (bif Nat.beq pc 18 then some (.new 169, 3, 1000, 0, 0, mj_u) else none)) else
     (bif Nat.blt pc 22 then (bif Nat.beq pc 21 then some (.dup, 1, 0, 0, 0, mj_u) else none) else
      (bif Nat.beq pc 22 then some (.ldc 171, 2, 0, 0, 0, mj_u) else none))) else
    (bif Nat.blt pc 28 then (bif Nat.blt pc 27 then (bif Nat.beq pc 24 then some (.invokespecial 173, 3, 1002, 0, 613, mj_u) else none) else
      (bif Nat.beq pc 27 then some (.athrow, 1, 0, 0, 0, mj_u) else none)) else
     (bif Nat.blt pc 29 then (bif Nat.beq pc 28 then some (.aload_n 0, 1, 0, 0, 0, mj_u) else none) else
      (bif Nat.blt pc 32 then (bif Nat.beq pc 29 then some (.getfield 10, 3, 8, 0, 296, .null) else none) else
       (bif Nat.beq pc 32 then some (.iload_n 1, 1, 1, 0, 0, mj_u) else none)))))) else
  (bif Nat.blt pc 52 then (bif Nat.blt pc 40 then (bif Nat.blt pc 37 then (bif Nat.blt pc 34 then (bif Nat.beq pc 33 then some (.iload_n 2, 1, 2, 0, 0, mj_u) else none) else
      (bif Nat.beq pc 34 then some (.invokevirtual 75, 3, 12, 0, 668, mj_u) else none)) else
     (bif Nat.blt pc 39 then (bif Nat.beq pc 37 then some (.istore 6, 2, 6, 0, 0, mj_u) else none) else
      (bif Nat.beq pc 39 then some (.aload_n 0, 1, 0, 0, 0, mj_u) else none))) else
    (bif Nat.blt pc 45 then (bif Nat.blt pc 43 then (bif Nat.beq pc 40 then some (.getfield 49, 3, 8, 5, 301, .null) else none) else
      (bif Nat.beq pc 43 then some (.iload 6, 2, 6, 0, 0, mj_u) else none)) else
     (bif Nat.blt pc 48 then (bif Nat.beq pc 45 then some (.invokevirtual 163, 3, 102, 0, 819, mj_u) else none) else
      (bif Nat.blt pc 49 then (bif Nat.beq pc 48 then some (.aload_n 0, 1, 0, 0, 0, mj_u) else none) else
       (bif Nat.beq pc 49 then some (.getfield 49, 3, 8, 5, 301, .null) else none))))) else
   (bif Nat.blt pc 59 then (bif Nat.blt pc 55 then (bif Nat.blt pc 54 then (bif Nat.beq pc 52 then some (.iload 6, 2, 6, 0, 0, mj_u) else none) else
      (bif Nat.beq pc 54 then some (.aload_n 0, 1, 0, 0, 0, mj_u) else none)) else
     (bif Nat.blt pc 58 then (bif Nat.beq pc 55 then some (.getfield 10, 3, 8, 0, 296, .null) else none) else
      (bif Nat.beq pc 58 then some (.iload_n 3, 1, 3, 0, 0, mj_u) else none))) else
    (bif Nat.blt pc 64 then (bif Nat.blt pc 61 then (bif Nat.beq pc 59 then some (.iload 4, 2, 4, 0, 0, mj_u) else none) else
      (bif Nat.beq pc 61 then some (.invokevirtual 75, 3, 12, 0, 668, mj_u) else none)) else
     (bif Nat.blt pc 66 then (bif Nat.beq pc 64 then some (.iload 5, 2, 5, 0, 0, mj_u) else none) else
      (bif Nat.blt pc 69 then (bif Nat.beq pc 66 then some (.invokevirtual 176, 3, 106, 0, 847, mj_u) else none) else
       (bif Nat.beq pc 69 then some (.ireturn, 1, 0, 0, 0, mj_u) else none))))))
def m_W_way : mj_M := (105, prog_1_method_26_code, 7, (Option.some Jvm.ClassFile.FieldType.int), 8, 5, 845, 843, 844, 45, 70, k_W_way)
/-- WatershedMap$Ways.goBack(III)I -/
def k_Ways_goBack : Nat → Option mj_I := fun pc =>
  bif Nat.blt pc 25 then (bif Nat.blt pc 13 then (bif Nat.blt pc 5 then (bif Nat.blt pc 1 then (bif Nat.beq pc 0 then some (.iload_n 3, 1, 3, 0, 0, mj_u) else none) else
     (bif Nat.blt pc 2 then (bif Nat.beq pc 1 then some (.aload_n 0, 1, 0, 0, 0, mj_u) else none) else
      (bif Nat.beq pc 2 then some (.getfield 22, 3, 7, 0, 262, .null) else none))) else
    (bif Nat.blt pc 11 then (bif Nat.blt pc 8 then (bif Nat.beq pc 5 then some (.getfield 40, 3, 4, 5, 106, .int 0) else none) else
      (bif Nat.beq pc 8 then some (.if_icmp .lt 5, 3, 13, 0, 0, mj_u) else none)) else
     (bif Nat.blt pc 12 then (bif Nat.beq pc 11 then some (.iconst (-1), 1, 0, 0, 0, .int (-1)) else none) else
      (bif Nat.beq pc 12 then some (.ireturn, 1, 0, 0, 0, mj_u) else none)))) else
   (bif Nat.blt pc 17 then (bif Nat.blt pc 14 then (bif Nat.beq pc 13 then some (.iload_n 2, 1, 2, 0, 0, mj_u) else none) else
     (bif Nat.blt pc 16 then (bif Nat.beq pc 14 then some (.istore 4, 2, 4, 0, 0, mj_u) else none) else
      (bif Nat.beq pc 16 then some (.iconst 0, 1, 0, 0, 0, .int 0) else none))) else
    (bif Nat.blt pc 21 then (bif Nat.blt pc 19 then (bif Nat.beq pc 17 then some (.istore 5, 2, 5, 0, 0, mj_u) else none) else
      (bif Nat.beq pc 19 then some (.iload 5, 2, 5, 0, 0, mj_u) else none)) else
     (bif Nat.blt pc 22 then (bif Nat.beq pc 21 then some (.iload_n 3, 1, 3, 0, 0, mj_u) else none) else
      (bif Nat.beq pc 22 then some (.if_icmp .ge 32, 3, 54, 0, 0, mj_u) else none))))) else
  (bif Nat.blt pc 40 then (bif Nat.blt pc 32 then (bif Nat.blt pc 27 then (bif Nat.beq pc 25 then some (.iload 4, 2, 4, 0, 0, mj_u) else none) else
     (bif Nat.blt pc 30 then (bif Nat.beq pc 27 then some (.ifCond .lt 27, 3, 54, 0, 0, mj_u) else none) else
      (bif Nat.beq pc 30 then some (.iload 4, 2, 4, 0, 0, mj_u) else none))) else
    (bif Nat.blt pc 36 then (bif Nat.blt pc 33 then (bif Nat.beq pc 32 then some (.iload_n 1, 1, 1, 0, 0, mj_u) else none) else
      (bif Nat.beq pc 33 then some (.if_icmp .ne 7, 3, 40, 0, 0, mj_u) else none)) else
     (bif Nat.blt pc 37 then (bif Nat.beq pc 36 then some (.iconst (-1), 1, 0, 0, 0, .int (-1)) else none) else
      (bif Nat.beq pc 37 then some (.goto 9, 3, 46, 0, 0, mj_u) else none)))) else
   (bif Nat.blt pc 48 then (bif Nat.blt pc 43 then (bif Nat.blt pc 41 then (bif Nat.beq pc 40 then some (.aload_n 0, 1, 0, 0, 0, mj_u) else none) else
      (bif Nat.beq pc 41 then some (.iload 4, 2, 4, 0, 0, mj_u) else none)) else
     (bif Nat.blt pc 46 then (bif Nat.beq pc 43 then some (.invokevirtual 68, 3, 107, 0, 851, mj_u) else none) else
      (bif Nat.beq pc 46 then some (.istore 4, 2, 4, 0, 0, mj_u) else none))) else
    (bif Nat.blt pc 54 then (bif Nat.blt pc 51 then (bif Nat.beq pc 48 then some (.iinc 5 1, 3, 5, 0, 0, .int 1) else none) else
      (bif Nat.beq pc 51 then some (.goto (-32), 3, 19, 0, 0, mj_u) else none)) else
     (bif Nat.blt pc 56 then (bif Nat.beq pc 54 then some (.iload 4, 2, 4, 0, 0, mj_u) else none) else
      (bif Nat.beq pc 56 then some (.ireturn, 1, 0, 0, 0, mj_u) else none)))))
def m_Ways_goBack : mj_M := (106, prog_9_method_5_code, 6, (Option.some Jvm.ClassFile.FieldType.int), 7, 3, 850, 848, 849, 53, 57, k_Ways_goBack)
/-- WatershedMap$Ways.fieldAhead(I)I -/
def k_Ways_fieldAhead : Nat → Option mj_I := fun pc =>
  bif Nat.blt pc 34 then (bif Nat.blt pc 15 then (bif Nat.blt pc 5 then (bif Nat.blt pc 2 then (bif Nat.blt pc 1 then (bif Nat.beq pc 0 then some (.iconst (-1), 1, 0, 0, 0, .int (-1)) else none) else
      (bif Nat.beq pc 1 then some (.istore_n 2, 1, 2, 0, 0, mj_u) else none)) else
     (bif Nat.blt pc 3 then (bif Nat.beq pc 2 then some (.iconst 0, 1, 0, 0, 0, .int 0) else none) else
      (bif Nat.blt pc 4 then (bif Nat.beq pc 3 then some (.istore_n 3, 1, 3, 0, 0, mj_u) else none) else
       (bif Nat.beq pc 4 then some (.iload_n 3, 1, 3, 0, 0, mj_u) else none)))) else
    (bif Nat.blt pc 10 then (bif Nat.blt pc 7 then (bif Nat.beq pc 5 then some (.bipush 8, 2, 0, 0, 0, .int 8) else none) else
      (bif Nat.beq pc 7 then some (.if_icmp .ge 63, 3, 70, 0, 0, mj_u) else none)) else
     (bif Nat.blt pc 11 then (bif Nat.beq pc 10 then some (.aload_n 0, 1, 0, 0, 0, mj_u) else none) else
      (bif Nat.blt pc 14 then (bif Nat.beq pc 11 then some (.getfield 22, 3, 7, 0, 262, .null) else none) else
       (bif Nat.beq pc 14 then some (.iload_n 1, 1, 1, 0, 0, mj_u) else none))))) else
   (bif Nat.blt pc 26 then (bif Nat.blt pc 19 then (bif Nat.blt pc 16 then (bif Nat.beq pc 15 then some (.iload_n 3, 1, 3, 0, 0, mj_u) else none) else
      (bif Nat.beq pc 16 then some (.invokevirtual 53, 3, 16, 0, 832, mj_u) else none)) else
     (bif Nat.blt pc 21 then (bif Nat.beq pc 19 then some (.istore 4, 2, 4, 0, 0, mj_u) else none) else
      (bif Nat.blt pc 23 then (bif Nat.beq pc 21 then some (.iload 4, 2, 4, 0, 0, mj_u) else none) else
       (bif Nat.beq pc 23 then some (.ifCond .lt 41, 3, 64, 0, 0, mj_u) else none)))) else
    (bif Nat.blt pc 30 then (bif Nat.blt pc 27 then (bif Nat.beq pc 26 then some (.aload_n 0, 1, 0, 0, 0, mj_u) else none) else
      (bif Nat.beq pc 27 then some (.getfield 9, 3, 7, 1, 263, .null) else none)) else
     (bif Nat.blt pc 32 then (bif Nat.beq pc 30 then some (.iload 4, 2, 4, 0, 0, mj_u) else none) else
      (bif Nat.blt pc 33 then (bif Nat.beq pc 32 then some (.iaload, 1, 0, 0, 0, mj_u) else none) else
       (bif Nat.beq pc 33 then some (.aload_n 0, 1, 0, 0, 0, mj_u) else none)))))) else
  (bif Nat.blt pc 51 then (bif Nat.blt pc 42 then (bif Nat.blt pc 37 then (bif Nat.blt pc 36 then (bif Nat.beq pc 34 then some (.iload 4, 2, 4, 0, 0, mj_u) else none) else
      (bif Nat.beq pc 36 then some (.iload_n 1, 1, 1, 0, 0, mj_u) else none)) else
     (bif Nat.blt pc 38 then (bif Nat.beq pc 37 then some (.iload_n 3, 1, 3, 0, 0, mj_u) else none) else
      (bif Nat.blt pc 41 then (bif Nat.beq pc 38 then some (.invokevirtual 57, 3, 104, 0, 833, mj_u) else none) else
       (bif Nat.beq pc 41 then some (.iadd, 1, 0, 0, 0, mj_u) else none)))) else
    (bif Nat.blt pc 46 then (bif Nat.blt pc 43 then (bif Nat.beq pc 42 then some (.aload_n 0, 1, 0, 0, 0, mj_u) else none) else
      (bif Nat.beq pc 43 then some (.getfield 9, 3, 7, 1, 263, .null) else none)) else
     (bif Nat.blt pc 47 then (bif Nat.beq pc 46 then some (.iload_n 1, 1, 1, 0, 0, mj_u) else none) else
      (bif Nat.blt pc 48 then (bif Nat.beq pc 47 then some (.iaload, 1, 0, 0, 0, mj_u) else none) else
       (bif Nat.beq pc 48 then some (.if_icmp .ne 16, 3, 64, 0, 0, mj_u) else none))))) else
   (bif Nat.blt pc 61 then (bif Nat.blt pc 55 then (bif Nat.blt pc 52 then (bif Nat.beq pc 51 then some (.iload_n 2, 1, 2, 0, 0, mj_u) else none) else
      (bif Nat.beq pc 52 then some (.ifCond .lt 9, 3, 61, 0, 0, mj_u) else none)) else
     (bif Nat.blt pc 57 then (bif Nat.beq pc 55 then some (.iload 4, 2, 4, 0, 0, mj_u) else none) else
      (bif Nat.blt pc 58 then (bif Nat.beq pc 57 then some (.iload_n 2, 1, 2, 0, 0, mj_u) else none) else
       (bif Nat.beq pc 58 then some (.if_icmp .ge 6, 3, 64, 0, 0, mj_u) else none)))) else
    (bif Nat.blt pc 67 then (bif Nat.blt pc 63 then (bif Nat.beq pc 61 then some (.iload 4, 2, 4, 0, 0, mj_u) else none) else
      (bif Nat.blt pc 64 then (bif Nat.beq pc 63 then some (.istore_n 2, 1, 2, 0, 0, mj_u) else none) else
       (bif Nat.beq pc 64 then some (.iinc 3 1, 3, 3, 0, 0, .int 1) else none))) else
     (bif Nat.blt pc 70 then (bif Nat.beq pc 67 then some (.goto (-63), 3, 4, 0, 0, mj_u) else none) else
      (bif Nat.blt pc 71 then (bif Nat.beq pc 70 then some (.iload_n 2, 1, 2, 0, 0, mj_u) else none) else
       (bif Nat.beq pc 71 then some (.ireturn, 1, 0, 0, 0, mj_u) else none))))))
def m_Ways_fieldAhead : mj_M := (107, prog_9_method_6_code, 5, (Option.some Jvm.ClassFile.FieldType.int), 7, 1, 854, 853, 25, 53, 72, k_Ways_fieldAhead)
/-- WatershedMap.volumeWith(III)I -/
def k_W_volumeWith : Nat → Option mj_I := fun pc =>
  bif Nat.blt pc 31 then (bif Nat.blt pc 14 then (bif Nat.blt pc 6 then (bif Nat.blt pc 2 then (bif Nat.blt pc 1 then (bif Nat.beq pc 0 then some (.aload_n 0, 1, 0, 0, 0, mj_u) else none) else
      (bif Nat.beq pc 1 then some (.iload_n 1, 1, 1, 0, 0, mj_u) else none)) else
     (bif Nat.blt pc 3 then (bif Nat.beq pc 2 then some (.iload_n 2, 1, 2, 0, 0, mj_u) else none) else
      (bif Nat.beq pc 3 then some (.invokevirtual 72, 3, 75, 0, 647, mj_u) else none))) else
    (bif Nat.blt pc 8 then (bif Nat.blt pc 7 then (bif Nat.beq pc 6 then some (.iload_n 3, 1, 3, 0, 0, mj_u) else none) else
      (bif Nat.beq pc 7 then some (.iconst 0, 1, 0, 0, 0, .int 0) else none)) else
     (bif Nat.blt pc 11 then (bif Nat.beq pc 8 then some (.sipush 999, 3, 0, 0, 0, .int 999) else none) else
      (bif Nat.beq pc 11 then some (.invokestatic 65, 3, 73, 0, 569, mj_u) else none)))) else
   (bif Nat.blt pc 20 then (bif Nat.blt pc 18 then (bif Nat.blt pc 15 then (bif Nat.beq pc 14 then some (.aload_n 0, 1, 0, 0, 0, mj_u) else none) else
      (bif Nat.beq pc 15 then some (.getfield 10, 3, 8, 0, 296, .null) else none)) else
     (bif Nat.blt pc 19 then (bif Nat.beq pc 18 then some (.iload_n 1, 1, 1, 0, 0, mj_u) else none) else
      (bif Nat.beq pc 19 then some (.iload_n 2, 1, 2, 0, 0, mj_u) else none))) else
    (bif Nat.blt pc 25 then (bif Nat.blt pc 23 then (bif Nat.beq pc 20 then some (.invokevirtual 75, 3, 12, 0, 668, mj_u) else none) else
      (bif Nat.beq pc 23 then some (.istore 4, 2, 4, 0, 0, mj_u) else none)) else
     (bif Nat.blt pc 26 then (bif Nat.beq pc 25 then some (.aload_n 0, 1, 0, 0, 0, mj_u) else none) else
      (bif Nat.blt pc 29 then (bif Nat.beq pc 26 then some (.getfield 10, 3, 8, 0, 296, .null) else none) else
       (bif Nat.beq pc 29 then some (.iload 4, 2, 4, 0, 0, mj_u) else none)))))) else
  (bif Nat.blt pc 51 then (bif Nat.blt pc 38 then (bif Nat.blt pc 35 then (bif Nat.blt pc 32 then (bif Nat.beq pc 31 then some (.iload_n 3, 1, 3, 0, 0, mj_u) else none) else
      (bif Nat.beq pc 32 then some (.invokevirtual 79, 3, 17, 0, 669, mj_u) else none)) else
     (bif Nat.blt pc 37 then (bif Nat.beq pc 35 then some (.istore 5, 2, 5, 0, 0, mj_u) else none) else
      (bif Nat.beq pc 37 then some (.aload_n 0, 1, 0, 0, 0, mj_u) else none))) else
    (bif Nat.blt pc 44 then (bif Nat.blt pc 41 then (bif Nat.beq pc 38 then some (.getfield 28, 3, 8, 2, 298, .null) else none) else
      (bif Nat.beq pc 41 then some (.invokevirtual 108, 3, 19, 0, 341, mj_u) else none)) else
     (bif Nat.blt pc 45 then (bif Nat.beq pc 44 then some (.aload_n 0, 1, 0, 0, 0, mj_u) else none) else
      (bif Nat.blt pc 48 then (bif Nat.beq pc 45 then some (.getfield 28, 3, 8, 2, 298, .null) else none) else
       (bif Nat.beq pc 48 then some (.invokevirtual 148, 3, 49, 0, 464, mj_u) else none))))) else
   (bif Nat.blt pc 59 then (bif Nat.blt pc 54 then (bif Nat.blt pc 53 then (bif Nat.beq pc 51 then some (.istore 6, 2, 6, 0, 0, mj_u) else none) else
      (bif Nat.beq pc 53 then some (.aload_n 0, 1, 0, 0, 0, mj_u) else none)) else
     (bif Nat.blt pc 57 then (bif Nat.beq pc 54 then some (.getfield 10, 3, 8, 0, 296, .null) else none) else
      (bif Nat.beq pc 57 then some (.iload 4, 2, 4, 0, 0, mj_u) else none))) else
    (bif Nat.blt pc 64 then (bif Nat.blt pc 61 then (bif Nat.beq pc 59 then some (.iload 5, 2, 5, 0, 0, mj_u) else none) else
      (bif Nat.beq pc 61 then some (.invokevirtual 79, 3, 17, 0, 669, mj_u) else none)) else
     (bif Nat.blt pc 65 then (bif Nat.beq pc 64 then some (.pop, 1, 0, 0, 0, mj_u) else none) else
      (bif Nat.blt pc 67 then (bif Nat.beq pc 65 then some (.iload 6, 2, 6, 0, 0, mj_u) else none) else
       (bif Nat.beq pc 67 then some (.ireturn, 1, 0, 0, 0, mj_u) else none))))))
def m_W_volumeWith : mj_M := (108, prog_1_method_28_code, 7, (Option.some Jvm.ClassFile.FieldType.int), 8, 3, 861, 859, 860, 45, 68, k_W_volumeWith)
/-- WatershedMap.endsWith(III)I -/
def k_W_endsWith : Nat → Option mj_I := fun pc =>
  bif Nat.blt pc 67 then (bif Nat.blt pc 30 then (bif Nat.blt pc 14 then (bif Nat.blt pc 6 then (bif Nat.blt pc 2 then (bif Nat.blt pc 1 then (bif Nat.beq pc 0 then some (.aload_n 0, 1, 0, 0, 0, mj_u) else none) else
       (bif Nat.beq pc 1 then some (.iload_n 1, 1, 1, 0, 0, mj_u) else none)) else
      (bif Nat.blt pc 3 then (bif Nat.beq pc 2 then some (.iload_n 2, 1, 2, 0, 0, mj_u) else none) else
       (bif Nat.beq pc 3 then some (.invokevirtual 72, 3, 75, 0, 647, mj_u) else none))) else
     (bif Nat.blt pc 8 then (bif Nat.blt pc 7 then (bif Nat.beq pc 6 then some (.iload_n 3, 1, 3, 0, 0, mj_u) else none) else
       (bif Nat.beq pc 7 then some (.iconst 0, 1, 0, 0, 0, .int 0) else none)) else
      (bif Nat.blt pc 11 then (bif Nat.beq pc 8 then some (.sipush 999, 3, 0, 0, 0, .int 999) else none) else
       (bif Nat.beq pc 11 then some (.invokestatic 65, 3, 73, 0, 569, mj_u) else none)))) else
    (bif Nat.blt pc 20 then (bif Nat.blt pc 18 then (bif Nat.blt pc 15 then (bif Nat.beq pc 14 then some (.aload_n 0, 1, 0, 0, 0, mj_u) else none) else
       (bif Nat.beq pc 15 then some (.getfield 10, 3, 8, 0, 296, .null) else none)) else
      (bif Nat.blt pc 19 then (bif Nat.beq pc 18 then some (.iload_n 1, 1, 1, 0, 0, mj_u) else none) else
       (bif Nat.beq pc 19 then some (.iload_n 2, 1, 2, 0, 0, mj_u) else none))) else
     (bif Nat.blt pc 25 then (bif Nat.blt pc 23 then (bif Nat.beq pc 20 then some (.invokevirtual 75, 3, 12, 0, 668, mj_u) else none) else
       (bif Nat.beq pc 23 then some (.istore 4, 2, 4, 0, 0, mj_u) else none)) else
      (bif Nat.blt pc 26 then (bif Nat.beq pc 25 then some (.aload_n 0, 1, 0, 0, 0, mj_u) else none) else
       (bif Nat.blt pc 29 then (bif Nat.beq pc 26 then some (.getfield 21, 3, 8, 1, 297, .null) else none) else
        (bif Nat.beq pc 29 then some (.aload_n 0, 1, 0, 0, 0, mj_u) else none)))))) else
   (bif Nat.blt pc 48 then (bif Nat.blt pc 40 then (bif Nat.blt pc 36 then (bif Nat.blt pc 33 then (bif Nat.beq pc 30 then some (.getfield 57, 3, 8, 7, 303, .int 0) else none) else
       (bif Nat.beq pc 33 then some (.invokevirtual 100, 3, 35, 0, 405, mj_u) else none)) else
      (bif Nat.blt pc 37 then (bif Nat.beq pc 36 then some (.aload_n 0, 1, 0, 0, 0, mj_u) else none) else
       (bif Nat.beq pc 37 then some (.getfield 21, 3, 8, 1, 297, .null) else none))) else
     (bif Nat.blt pc 44 then (bif Nat.blt pc 43 then (bif Nat.beq pc 40 then some (.getfield 183, 3, 6, 4, 134, .null) else none) else
       (bif Nat.beq pc 43 then some (.iconst 0, 1, 0, 0, 0, .int 0) else none)) else
      (bif Nat.blt pc 45 then (bif Nat.beq pc 44 then some (.aload_n 0, 1, 0, 0, 0, mj_u) else none) else
       (bif Nat.beq pc 45 then some (.getfield 53, 3, 8, 6, 302, .null) else none)))) else
    (bif Nat.blt pc 56 then (bif Nat.blt pc 52 then (bif Nat.blt pc 49 then (bif Nat.beq pc 48 then some (.iconst 0, 1, 0, 0, 0, .int 0) else none) else
       (bif Nat.beq pc 49 then some (.sipush 256, 3, 0, 0, 0, .int 256) else none)) else
      (bif Nat.blt pc 55 then (bif Nat.beq pc 52 then some (.invokestatic 186, 3, 1001, 0, 869, mj_u) else none) else
       (bif Nat.beq pc 55 then some (.aload_n 0, 1, 0, 0, 0, mj_u) else none))) else
     (bif Nat.blt pc 61 then (bif Nat.blt pc 59 then (bif Nat.beq pc 56 then some (.getfield 10, 3, 8, 0, 296, .null) else none) else
       (bif Nat.beq pc 59 then some (.iload 4, 2, 4, 0, 0, mj_u) else none)) else
      (bif Nat.blt pc 62 then (bif Nat.beq pc 61 then some (.iload_n 3, 1, 3, 0, 0, mj_u) else none) else
       (bif Nat.blt pc 65 then (bif Nat.beq pc 62 then some (.invokevirtual 79, 3, 17, 0, 669, mj_u) else none) else
        (bif Nat.beq pc 65 then some (.istore 5, 2, 5, 0, 0, mj_u) else none))))))) else
  (bif Nat.blt pc 99 then (bif Nat.blt pc 84 then (bif Nat.blt pc 75 then (bif Nat.blt pc 71 then (bif Nat.blt pc 68 then (bif Nat.beq pc 67 then some (.aload_n 0, 1, 0, 0, 0, mj_u) else none) else
       (bif Nat.beq pc 68 then some (.getfield 21, 3, 8, 1, 297, .null) else none)) else
      (bif Nat.blt pc 72 then (bif Nat.beq pc 71 then some (.aload_n 0, 1, 0, 0, 0, mj_u) else none) else
       (bif Nat.beq pc 72 then some (.getfield 57, 3, 8, 7, 303, .int 0) else none))) else
     (bif Nat.blt pc 79 then (bif Nat.blt pc 78 then (bif Nat.beq pc 75 then some (.invokevirtual 100, 3, 35, 0, 405, mj_u) else none) else
       (bif Nat.beq pc 78 then some (.aload_n 0, 1, 0, 0, 0, mj_u) else none)) else
      (bif Nat.blt pc 82 then (bif Nat.beq pc 79 then some (.getfield 10, 3, 8, 0, 296, .null) else none) else
       (bif Nat.beq pc 82 then some (.iload 4, 2, 4, 0, 0, mj_u) else none)))) else
    (bif Nat.blt pc 91 then (bif Nat.blt pc 89 then (bif Nat.blt pc 86 then (bif Nat.beq pc 84 then some (.iload 5, 2, 5, 0, 0, mj_u) else none) else
       (bif Nat.beq pc 86 then some (.invokevirtual 79, 3, 17, 0, 669, mj_u) else none)) else
      (bif Nat.blt pc 90 then (bif Nat.beq pc 89 then some (.pop, 1, 0, 0, 0, mj_u) else none) else
       (bif Nat.beq pc 90 then some (.iconst 0, 1, 0, 0, 0, .int 0) else none))) else
     (bif Nat.blt pc 94 then (bif Nat.blt pc 93 then (bif Nat.beq pc 91 then some (.istore 6, 2, 6, 0, 0, mj_u) else none) else
       (bif Nat.beq pc 93 then some (.iconst 0, 1, 0, 0, 0, .int 0) else none)) else
      (bif Nat.blt pc 96 then (bif Nat.beq pc 94 then some (.istore 7, 2, 7, 0, 0, mj_u) else none) else
       (bif Nat.blt pc 98 then (bif Nat.beq pc 96 then some (.iload 7, 2, 7, 0, 0, mj_u) else none) else
        (bif Nat.beq pc 98 then some (.aload_n 0, 1, 0, 0, 0, mj_u) else none)))))) else
   (bif Nat.blt pc 119 then (bif Nat.blt pc 109 then (bif Nat.blt pc 105 then (bif Nat.blt pc 102 then (bif Nat.beq pc 99 then some (.getfield 10, 3, 8, 0, 296, .null) else none) else
       (bif Nat.beq pc 102 then some (.getfield 69, 3, 4, 5, 105, .int 0) else none)) else
      (bif Nat.blt pc 108 then (bif Nat.beq pc 105 then some (.if_icmp .ge 32, 3, 137, 0, 0, mj_u) else none) else
       (bif Nat.beq pc 108 then some (.aload_n 0, 1, 0, 0, 0, mj_u) else none))) else
     (bif Nat.blt pc 115 then (bif Nat.blt pc 112 then (bif Nat.beq pc 109 then some (.getfield 21, 3, 8, 1, 297, .null) else none) else
       (bif Nat.beq pc 112 then some (.getfield 183, 3, 6, 4, 134, .null) else none)) else
      (bif Nat.blt pc 117 then (bif Nat.beq pc 115 then some (.iload 7, 2, 7, 0, 0, mj_u) else none) else
       (bif Nat.blt pc 118 then (bif Nat.beq pc 117 then some (.iaload, 1, 0, 0, 0, mj_u) else none) else
        (bif Nat.beq pc 118 then some (.aload_n 0, 1, 0, 0, 0, mj_u) else none))))) else
    (bif Nat.blt pc 128 then (bif Nat.blt pc 124 then (bif Nat.blt pc 122 then (bif Nat.beq pc 119 then some (.getfield 53, 3, 8, 6, 302, .null) else none) else
       (bif Nat.beq pc 122 then some (.iload 7, 2, 7, 0, 0, mj_u) else none)) else
      (bif Nat.blt pc 125 then (bif Nat.beq pc 124 then some (.iaload, 1, 0, 0, 0, mj_u) else none) else
       (bif Nat.beq pc 125 then some (.if_icmp .eq 6, 3, 131, 0, 0, mj_u) else none))) else
     (bif Nat.blt pc 134 then (bif Nat.blt pc 131 then (bif Nat.beq pc 128 then some (.iinc 6 1, 3, 6, 0, 0, .int 1) else none) else
       (bif Nat.beq pc 131 then some (.iinc 7 1, 3, 7, 0, 0, .int 1) else none)) else
      (bif Nat.blt pc 137 then (bif Nat.beq pc 134 then some (.goto (-38), 3, 96, 0, 0, mj_u) else none) else
       (bif Nat.blt pc 139 then (bif Nat.beq pc 137 then some (.iload 6, 2, 6, 0, 0, mj_u) else none) else
        (bif Nat.beq pc 139 then some (.ireturn, 1, 0, 0, 0, mj_u) else none)))))))
def m_W_endsWith : mj_M := (109, prog_1_method_29_code, 8, (Option.some Jvm.ClassFile.FieldType.int), 8, 3, 868, 866, 867, 45, 140, k_W_endsWith)
/-- WatershedMap.lookout(II)I -/
def k_W_lookout : Nat → Option mj_I := fun pc =>
  bif Nat.blt pc 31 then (bif Nat.blt pc 15 then (bif Nat.blt pc 6 then (bif Nat.blt pc 2 then (bif Nat.blt pc 1 then (bif Nat.beq pc 0 then some (.aload_n 0, 1, 0, 0, 0, mj_u) else none) else
      (bif Nat.beq pc 1 then some (.iconst 0, 1, 0, 0, 0, .int 0) else none)) else
     (bif Nat.blt pc 3 then (bif Nat.beq pc 2 then some (.iload_n 1, 1, 1, 0, 0, mj_u) else none) else
      (bif Nat.beq pc 3 then some (.invokevirtual 72, 3, 75, 0, 647, mj_u) else none))) else
    (bif Nat.blt pc 8 then (bif Nat.blt pc 7 then (bif Nat.beq pc 6 then some (.iload_n 2, 1, 2, 0, 0, mj_u) else none) else
      (bif Nat.beq pc 7 then some (.iconst 0, 1, 0, 0, 0, .int 0) else none)) else
     (bif Nat.blt pc 11 then (bif Nat.beq pc 8 then some (.sipush 500, 3, 0, 0, 0, .int 500) else none) else
      (bif Nat.blt pc 14 then (bif Nat.beq pc 11 then some (.invokestatic 65, 3, 73, 0, 569, mj_u) else none) else
       (bif Nat.beq pc 14 then some (.iconst 0, 1, 0, 0, 0, .int 0) else none))))) else
   (bif Nat.blt pc 20 then (bif Nat.blt pc 17 then (bif Nat.blt pc 16 then (bif Nat.beq pc 15 then some (.istore_n 3, 1, 3, 0, 0, mj_u) else none) else
      (bif Nat.beq pc 16 then some (.iconst 0, 1, 0, 0, 0, .int 0) else none)) else
     (bif Nat.blt pc 19 then (bif Nat.beq pc 17 then some (.istore 4, 2, 4, 0, 0, mj_u) else none) else
      (bif Nat.beq pc 19 then some (.iconst 0, 1, 0, 0, 0, .int 0) else none))) else
    (bif Nat.blt pc 24 then (bif Nat.blt pc 22 then (bif Nat.beq pc 20 then some (.istore 5, 2, 5, 0, 0, mj_u) else none) else
      (bif Nat.beq pc 22 then some (.iload 5, 2, 5, 0, 0, mj_u) else none)) else
     (bif Nat.blt pc 25 then (bif Nat.beq pc 24 then some (.aload_n 0, 1, 0, 0, 0, mj_u) else none) else
      (bif Nat.blt pc 28 then (bif Nat.beq pc 25 then some (.getfield 10, 3, 8, 0, 296, .null) else none) else
       (bif Nat.beq pc 28 then some (.getfield 192, 3, 4, 3, 98, .int 0) else none)))))) else
  (bif Nat.blt pc 49 then (bif Nat.blt pc 40 then (bif Nat.blt pc 35 then (bif Nat.blt pc 34 then (bif Nat.beq pc 31 then some (.if_icmp .ge 36, 3, 67, 0, 0, mj_u) else none) else
      (bif Nat.beq pc 34 then some (.aload_n 0, 1, 0, 0, 0, mj_u) else none)) else
     (bif Nat.blt pc 38 then (bif Nat.beq pc 35 then some (.getfield 42, 3, 8, 4, 300, .null) else none) else
      (bif Nat.beq pc 38 then some (.iload 5, 2, 5, 0, 0, mj_u) else none))) else
    (bif Nat.blt pc 42 then (bif Nat.blt pc 41 then (bif Nat.beq pc 40 then some (.iload_n 1, 1, 1, 0, 0, mj_u) else none) else
      (bif Nat.beq pc 41 then some (.iload_n 2, 1, 2, 0, 0, mj_u) else none)) else
     (bif Nat.blt pc 45 then (bif Nat.beq pc 42 then some (.invokevirtual 159, 3, 100, 0, 807, mj_u) else none) else
      (bif Nat.blt pc 47 then (bif Nat.beq pc 45 then some (.istore 6, 2, 6, 0, 0, mj_u) else none) else
       (bif Nat.beq pc 47 then some (.iload 6, 2, 6, 0, 0, mj_u) else none))))) else
   (bif Nat.blt pc 60 then (bif Nat.blt pc 54 then (bif Nat.blt pc 51 then (bif Nat.beq pc 49 then some (.iload 4, 2, 4, 0, 0, mj_u) else none) else
      (bif Nat.beq pc 51 then some (.if_icmp .le 10, 3, 61, 0, 0, mj_u) else none)) else
     (bif Nat.blt pc 56 then (bif Nat.beq pc 54 then some (.iload 6, 2, 6, 0, 0, mj_u) else none) else
      (bif Nat.blt pc 58 then (bif Nat.beq pc 56 then some (.istore 4, 2, 4, 0, 0, mj_u) else none) else
       (bif Nat.beq pc 58 then some (.iload 5, 2, 5, 0, 0, mj_u) else none)))) else
    (bif Nat.blt pc 64 then (bif Nat.blt pc 61 then (bif Nat.beq pc 60 then some (.istore_n 3, 1, 3, 0, 0, mj_u) else none) else
      (bif Nat.beq pc 61 then some (.iinc 5 1, 3, 5, 0, 0, .int 1) else none)) else
     (bif Nat.blt pc 67 then (bif Nat.beq pc 64 then some (.goto (-42), 3, 22, 0, 0, mj_u) else none) else
      (bif Nat.blt pc 68 then (bif Nat.beq pc 67 then some (.iload_n 3, 1, 3, 0, 0, mj_u) else none) else
       (bif Nat.beq pc 68 then some (.ireturn, 1, 0, 0, 0, mj_u) else none))))))
def m_W_lookout : mj_M := (110, prog_1_method_30_code, 7, (Option.some Jvm.ClassFile.FieldType.int), 8, 2, 878, 876, 877, 45, 69, k_W_lookout)
/-- WatershedMapModel.<init>()V -/
def k_M_init : Nat → Option mj_I := fun pc =>
  bif Nat.blt pc 13 then (bif Nat.blt pc 5 then (bif Nat.blt pc 1 then (bif Nat.beq pc 0 then some (.aload_n 0, 1, 0, 0, 0, mj_u) else none) else
    (bif Nat.blt pc 4 then (bif Nat.beq pc 1 then some (.invokespecial 12, 3, 1000, 0, 884, mj_u) else none) else
     (bif Nat.beq pc 4 then some (.aload_n 0, 1, 0, 0, 0, mj_u) else none))) else
   (bif Nat.blt pc 9 then (bif Nat.blt pc 8 then (bif Nat.beq pc 5 then some (.new 18, 3, 9, 886, 885, mj_u) else none) else
     (bif Nat.beq pc 8 then some (.dup, 1, 0, 0, 0, mj_u) else none)) else
    (bif Nat.blt pc 11 then (bif Nat.beq pc 9 then some (.bipush 12, 2, 0, 0, 0, .int 12) else none) else
     (bif Nat.beq pc 11 then some (.bipush 12, 2, 0, 0, 0, .int 12) else none)))) else
  (bif Nat.blt pc 24 then (bif Nat.blt pc 18 then (bif Nat.blt pc 16 then (bif Nat.beq pc 13 then some (.sipush 144, 3, 0, 0, 0, .int 144) else none) else
     (bif Nat.beq pc 16 then some (.newarray .int, 2, 0, 0, 0, mj_u) else none)) else
    (bif Nat.blt pc 21 then (bif Nat.beq pc 18 then some (.invokespecial 20, 3, 112, 0, 887, mj_u) else none) else
     (bif Nat.beq pc 21 then some (.putfield 23, 3, 10, 1, 905, .null) else none))) else
   (bif Nat.blt pc 26 then (bif Nat.blt pc 25 then (bif Nat.beq pc 24 then some (.aload_n 0, 1, 0, 0, 0, mj_u) else none) else
     (bif Nat.beq pc 25 then some (.iconst 5, 1, 0, 0, 0, .int 5) else none)) else
    (bif Nat.blt pc 29 then (bif Nat.beq pc 26 then some (.putfield 27, 3, 10, 2, 906, .int 0) else none) else
     (bif Nat.beq pc 29 then some (.return_, 1, 0, 0, 0, mj_u) else none))))
def m_M_init : mj_M := (111, prog_11_method_2_code, 1, (Option.none : Option Jvm.ClassFile.FieldType), 10, 0, 883, 882, 0, 55, 30, k_M_init)
/-- WatershedMapModel$Land.<init>(II[I)V -/
def k_ML_init : Nat → Option mj_I := fun pc =>
  bif Nat.blt pc 10 then (bif Nat.blt pc 5 then (bif Nat.blt pc 1 then (bif Nat.beq pc 0 then some (.aload_n 0, 1, 0, 0, 0, mj_u) else none) else
    (bif Nat.blt pc 4 then (bif Nat.beq pc 1 then some (.invokespecial 3, 3, 1000, 0, 890, mj_u) else none) else
     (bif Nat.beq pc 4 then some (.aload_n 0, 1, 0, 0, 0, mj_u) else none))) else
   (bif Nat.blt pc 6 then (bif Nat.beq pc 5 then some (.iload_n 1, 1, 1, 0, 0, mj_u) else none) else
    (bif Nat.blt pc 9 then (bif Nat.beq pc 6 then some (.putfield 9, 3, 9, 0, 891, .int 0) else none) else
     (bif Nat.beq pc 9 then some (.aload_n 0, 1, 0, 0, 0, mj_u) else none)))) else
  (bif Nat.blt pc 15 then (bif Nat.blt pc 11 then (bif Nat.beq pc 10 then some (.iload_n 2, 1, 2, 0, 0, mj_u) else none) else
    (bif Nat.blt pc 14 then (bif Nat.beq pc 11 then some (.putfield 15, 3, 9, 1, 893, .int 0) else none) else
     (bif Nat.beq pc 14 then some (.aload_n 0, 1, 0, 0, 0, mj_u) else none))) else
   (bif Nat.blt pc 16 then (bif Nat.beq pc 15 then some (.aload_n 3, 1, 3, 0, 0, mj_u) else none) else
    (bif Nat.blt pc 19 then (bif Nat.beq pc 16 then some (.putfield 18, 3, 9, 2, 895, .null) else none) else
     (bif Nat.beq pc 19 then some (.return_, 1, 0, 0, 0, mj_u) else none))))
def m_ML_init : mj_M := (112, prog_12_method_1_code, 4, (Option.none : Option Jvm.ClassFile.FieldType), 9, 3, 889, 888, 0, 56, 20, k_ML_init)
/-- WatershedMapModel.thrown()I -/
def k_M_thrown : Nat → Option mj_I := fun pc =>
  bif Nat.blt pc 1 then (bif Nat.beq pc 0 then some (.aload_n 0, 1, 0, 0, 0, mj_u) else none) else
  (bif Nat.blt pc 4 then (bif Nat.beq pc 1 then some (.getfield 31, 3, 10, 0, 904, .int 0) else none) else
   (bif Nat.beq pc 4 then some (.ireturn, 1, 0, 0, 0, mj_u) else none))
def m_M_thrown : mj_M := (113, prog_11_method_3_code, 1, (Option.some Jvm.ClassFile.FieldType.int), 10, 0, 917, 915, 916, 55, 5, k_M_thrown)
/-- WatershedMapModel.reset(II)I -/
def k_M_reset : Nat → Option mj_I := fun pc =>
  bif Nat.blt pc 33 then (bif Nat.blt pc 13 then (bif Nat.blt pc 5 then (bif Nat.blt pc 2 then (bif Nat.blt pc 1 then (bif Nat.beq pc 0 then some (.aload_n 0, 1, 0, 0, 0, mj_u) else none) else
      (bif Nat.beq pc 1 then some (.iload_n 1, 1, 1, 0, 0, mj_u) else none)) else
     (bif Nat.blt pc 3 then (bif Nat.beq pc 2 then some (.iconst 2, 1, 0, 0, 0, .int 2) else none) else
      (bif Nat.beq pc 3 then some (.bipush 16, 2, 0, 0, 0, .int 16) else none))) else
    (bif Nat.blt pc 11 then (bif Nat.blt pc 8 then (bif Nat.beq pc 5 then some (.invokestatic 41, 3, 115, 0, 922, mj_u) else none) else
      (bif Nat.beq pc 8 then some (.ifCond .eq 13, 3, 21, 0, 0, mj_u) else none)) else
     (bif Nat.blt pc 12 then (bif Nat.beq pc 11 then some (.iload_n 2, 1, 2, 0, 0, mj_u) else none) else
      (bif Nat.beq pc 12 then some (.iconst 2, 1, 0, 0, 0, .int 2) else none)))) else
   (bif Nat.blt pc 22 then (bif Nat.blt pc 18 then (bif Nat.blt pc 15 then (bif Nat.beq pc 13 then some (.bipush 16, 2, 0, 0, 0, .int 16) else none) else
      (bif Nat.beq pc 15 then some (.invokestatic 41, 3, 115, 0, 922, mj_u) else none)) else
     (bif Nat.blt pc 21 then (bif Nat.beq pc 18 then some (.ifCond .ne 7, 3, 25, 0, 0, mj_u) else none) else
      (bif Nat.beq pc 21 then some (.iconst 1, 1, 0, 0, 0, .int 1) else none))) else
    (bif Nat.blt pc 26 then (bif Nat.blt pc 25 then (bif Nat.beq pc 22 then some (.goto 4, 3, 26, 0, 0, mj_u) else none) else
      (bif Nat.beq pc 25 then some (.iconst 0, 1, 0, 0, 0, .int 0) else none)) else
     (bif Nat.blt pc 27 then (bif Nat.beq pc 26 then some (.iconst 1, 1, 0, 0, 0, .int 1) else none) else
      (bif Nat.blt pc 30 then (bif Nat.beq pc 27 then some (.invokevirtual 52, 3, 116, 0, 925, mj_u) else none) else
       (bif Nat.beq pc 30 then some (.ifCond .eq 5, 3, 35, 0, 0, mj_u) else none)))))) else
  (bif Nat.blt pc 43 then (bif Nat.blt pc 39 then (bif Nat.blt pc 35 then (bif Nat.blt pc 34 then (bif Nat.beq pc 33 then some (.iconst 0, 1, 0, 0, 0, .int 0) else none) else
      (bif Nat.beq pc 34 then some (.ireturn, 1, 0, 0, 0, mj_u) else none)) else
     (bif Nat.blt pc 36 then (bif Nat.beq pc 35 then some (.aload_n 0, 1, 0, 0, 0, mj_u) else none) else
      (bif Nat.beq pc 36 then some (.new 18, 3, 9, 886, 885, mj_u) else none))) else
    (bif Nat.blt pc 41 then (bif Nat.blt pc 40 then (bif Nat.beq pc 39 then some (.dup, 1, 0, 0, 0, mj_u) else none) else
      (bif Nat.beq pc 40 then some (.iload_n 1, 1, 1, 0, 0, mj_u) else none)) else
     (bif Nat.blt pc 42 then (bif Nat.beq pc 41 then some (.iload_n 2, 1, 2, 0, 0, mj_u) else none) else
      (bif Nat.beq pc 42 then some (.iload_n 1, 1, 1, 0, 0, mj_u) else none)))) else
   (bif Nat.blt pc 50 then (bif Nat.blt pc 45 then (bif Nat.blt pc 44 then (bif Nat.beq pc 43 then some (.iload_n 2, 1, 2, 0, 0, mj_u) else none) else
      (bif Nat.beq pc 44 then some (.imul, 1, 0, 0, 0, mj_u) else none)) else
     (bif Nat.blt pc 47 then (bif Nat.beq pc 45 then some (.newarray .int, 2, 0, 0, 0, mj_u) else none) else
      (bif Nat.beq pc 47 then some (.invokespecial 20, 3, 112, 0, 887, mj_u) else none))) else
    (bif Nat.blt pc 54 then (bif Nat.blt pc 53 then (bif Nat.beq pc 50 then some (.putfield 23, 3, 10, 1, 905, .null) else none) else
      (bif Nat.beq pc 53 then some (.iload_n 1, 1, 1, 0, 0, mj_u) else none)) else
     (bif Nat.blt pc 55 then (bif Nat.beq pc 54 then some (.iload_n 2, 1, 2, 0, 0, mj_u) else none) else
      (bif Nat.blt pc 56 then (bif Nat.beq pc 55 then some (.imul, 1, 0, 0, 0, mj_u) else none) else
       (bif Nat.beq pc 56 then some (.ireturn, 1, 0, 0, 0, mj_u) else none))))))
def m_M_reset : mj_M := (114, prog_11_method_12_code, 3, (Option.some Jvm.ClassFile.FieldType.int), 10, 2, 921, 919, 920, 55, 57, k_M_reset)
/-- WatershedMapModel.isIn(III)Z static -/
def k_M_isIn : Nat → Option mj_I := fun pc =>
  bif Nat.blt pc 7 then (bif Nat.blt pc 2 then (bif Nat.blt pc 1 then (bif Nat.beq pc 0 then some (.iload_n 0, 1, 0, 0, 0, mj_u) else none) else
    (bif Nat.beq pc 1 then some (.iload_n 1, 1, 1, 0, 0, mj_u) else none)) else
   (bif Nat.blt pc 5 then (bif Nat.beq pc 2 then some (.if_icmp .lt 12, 3, 14, 0, 0, mj_u) else none) else
    (bif Nat.blt pc 6 then (bif Nat.beq pc 5 then some (.iload_n 0, 1, 0, 0, 0, mj_u) else none) else
     (bif Nat.beq pc 6 then some (.iload_n 2, 1, 2, 0, 0, mj_u) else none)))) else
  (bif Nat.blt pc 11 then (bif Nat.blt pc 10 then (bif Nat.beq pc 7 then some (.if_icmp .gt 7, 3, 14, 0, 0, mj_u) else none) else
    (bif Nat.beq pc 10 then some (.iconst 1, 1, 0, 0, 0, .int 1) else none)) else
   (bif Nat.blt pc 14 then (bif Nat.beq pc 11 then some (.goto 4, 3, 15, 0, 0, mj_u) else none) else
    (bif Nat.blt pc 15 then (bif Nat.beq pc 14 then some (.iconst 0, 1, 0, 0, 0, .int 0) else none) else
     (bif Nat.beq pc 15 then some (.ireturn, 1, 0, 0, 0, mj_u) else none))))
def m_M_isIn : mj_M := (115, prog_11_method_4_code, 3, (Option.some Jvm.ClassFile.FieldType.boolean), 10, 3, 924, 923, 0, 55, 16, k_M_isIn)
/-- WatershedMapModel.start(ZI)Z -/
def k_M_start : Nat → Option mj_I := fun pc =>
  bif Nat.blt pc 6 then (bif Nat.blt pc 2 then (bif Nat.blt pc 1 then (bif Nat.beq pc 0 then some (.aload_n 0, 1, 0, 0, 0, mj_u) else none) else
    (bif Nat.beq pc 1 then some (.iconst 0, 1, 0, 0, 0, .int 0) else none)) else
   (bif Nat.blt pc 5 then (bif Nat.beq pc 2 then some (.putfield 31, 3, 10, 0, 904, .int 0) else none) else
    (bif Nat.beq pc 5 then some (.aload_n 0, 1, 0, 0, 0, mj_u) else none))) else
  (bif Nat.blt pc 8 then (bif Nat.blt pc 7 then (bif Nat.beq pc 6 then some (.iload_n 1, 1, 1, 0, 0, mj_u) else none) else
    (bif Nat.beq pc 7 then some (.iload_n 2, 1, 2, 0, 0, mj_u) else none)) else
   (bif Nat.blt pc 11 then (bif Nat.beq pc 8 then some (.invokevirtual 34, 3, 117, 0, 929, mj_u) else none) else
    (bif Nat.beq pc 11 then some (.ireturn, 1, 0, 0, 0, mj_u) else none)))
def m_M_start : mj_M := (116, prog_11_method_6_code, 3, (Option.some Jvm.ClassFile.FieldType.boolean), 10, 2, 928, 927, 26, 55, 12, k_M_start)
/-- WatershedMapModel.refuse(ZI)Z -/
def k_M_refuse : Nat → Option mj_I := fun pc =>
  bif Nat.blt pc 13 then (bif Nat.blt pc 5 then (bif Nat.blt pc 1 then (bif Nat.beq pc 0 then some (.iload_n 1, 1, 1, 0, 0, mj_u) else none) else
    (bif Nat.blt pc 4 then (bif Nat.beq pc 1 then some (.ifCond .eq 15, 3, 16, 0, 0, mj_u) else none) else
     (bif Nat.beq pc 4 then some (.aload_n 0, 1, 0, 0, 0, mj_u) else none))) else
   (bif Nat.blt pc 11 then (bif Nat.blt pc 8 then (bif Nat.beq pc 5 then some (.getfield 31, 3, 10, 0, 904, .int 0) else none) else
     (bif Nat.beq pc 8 then some (.ifCond .ne 8, 3, 16, 0, 0, mj_u) else none)) else
    (bif Nat.blt pc 12 then (bif Nat.beq pc 11 then some (.aload_n 0, 1, 0, 0, 0, mj_u) else none) else
     (bif Nat.beq pc 12 then some (.iload_n 2, 1, 2, 0, 0, mj_u) else none)))) else
  (bif Nat.blt pc 23 then (bif Nat.blt pc 17 then (bif Nat.blt pc 16 then (bif Nat.beq pc 13 then some (.putfield 31, 3, 10, 0, 904, .int 0) else none) else
     (bif Nat.beq pc 16 then some (.aload_n 0, 1, 0, 0, 0, mj_u) else none)) else
    (bif Nat.blt pc 20 then (bif Nat.beq pc 17 then some (.getfield 31, 3, 10, 0, 904, .int 0) else none) else
     (bif Nat.beq pc 20 then some (.ifCond .le 7, 3, 27, 0, 0, mj_u) else none))) else
   (bif Nat.blt pc 27 then (bif Nat.blt pc 24 then (bif Nat.beq pc 23 then some (.iconst 1, 1, 0, 0, 0, .int 1) else none) else
     (bif Nat.beq pc 24 then some (.goto 4, 3, 28, 0, 0, mj_u) else none)) else
    (bif Nat.blt pc 28 then (bif Nat.beq pc 27 then some (.iconst 0, 1, 0, 0, 0, .int 0) else none) else
     (bif Nat.beq pc 28 then some (.ireturn, 1, 0, 0, 0, mj_u) else none))))
def m_M_refuse : mj_M := (117, prog_11_method_5_code, 3, (Option.some Jvm.ClassFile.FieldType.boolean), 10, 2, 932, 931, 27, 55, 29, k_M_refuse)
/-- WatershedMapModel.set(III)I -/
def k_M_set : Nat → Option mj_I := fun pc =>
  bif Nat.blt pc 36 then (bif Nat.blt pc 18 then (bif Nat.blt pc 9 then (bif Nat.blt pc 2 then (bif Nat.blt pc 1 then (bif Nat.beq pc 0 then some (.aload_n 0, 1, 0, 0, 0, mj_u) else none) else
      (bif Nat.beq pc 1 then some (.iload_n 1, 1, 1, 0, 0, mj_u) else none)) else
     (bif Nat.blt pc 3 then (bif Nat.beq pc 2 then some (.iload_n 2, 1, 2, 0, 0, mj_u) else none) else
      (bif Nat.blt pc 6 then (bif Nat.beq pc 3 then some (.invokevirtual 63, 3, 119, 0, 937, mj_u) else none) else
       (bif Nat.beq pc 6 then some (.ifCond .ne 27, 3, 33, 0, 0, mj_u) else none)))) else
    (bif Nat.blt pc 11 then (bif Nat.blt pc 10 then (bif Nat.beq pc 9 then some (.aload_n 0, 1, 0, 0, 0, mj_u) else none) else
      (bif Nat.beq pc 10 then some (.iload_n 3, 1, 3, 0, 0, mj_u) else none)) else
     (bif Nat.blt pc 12 then (bif Nat.beq pc 11 then some (.iconst 0, 1, 0, 0, 0, .int 0) else none) else
      (bif Nat.blt pc 15 then (bif Nat.beq pc 12 then some (.sipush 999, 3, 0, 0, 0, .int 999) else none) else
       (bif Nat.beq pc 15 then some (.invokestatic 41, 3, 115, 0, 922, mj_u) else none))))) else
   (bif Nat.blt pc 27 then (bif Nat.blt pc 22 then (bif Nat.blt pc 21 then (bif Nat.beq pc 18 then some (.ifCond .ne 7, 3, 25, 0, 0, mj_u) else none) else
      (bif Nat.beq pc 21 then some (.iconst 1, 1, 0, 0, 0, .int 1) else none)) else
     (bif Nat.blt pc 25 then (bif Nat.beq pc 22 then some (.goto 4, 3, 26, 0, 0, mj_u) else none) else
      (bif Nat.blt pc 26 then (bif Nat.beq pc 25 then some (.iconst 0, 1, 0, 0, 0, .int 0) else none) else
       (bif Nat.beq pc 26 then some (.iconst 2, 1, 0, 0, 0, .int 2) else none)))) else
    (bif Nat.blt pc 33 then (bif Nat.blt pc 30 then (bif Nat.beq pc 27 then some (.invokevirtual 34, 3, 117, 0, 929, mj_u) else none) else
      (bif Nat.beq pc 30 then some (.ifCond .eq 5, 3, 35, 0, 0, mj_u) else none)) else
     (bif Nat.blt pc 34 then (bif Nat.beq pc 33 then some (.iconst 0, 1, 0, 0, 0, .int 0) else none) else
      (bif Nat.blt pc 35 then (bif Nat.beq pc 34 then some (.ireturn, 1, 0, 0, 0, mj_u) else none) else
       (bif Nat.beq pc 35 then some (.aload_n 0, 1, 0, 0, 0, mj_u) else none)))))) else
  (bif Nat.blt pc 53 then (bif Nat.blt pc 45 then (bif Nat.blt pc 42 then (bif Nat.blt pc 39 then (bif Nat.beq pc 36 then some (.getfield 23, 3, 10, 1, 905, .null) else none) else
      (bif Nat.beq pc 39 then some (.getfield 55, 3, 9, 2, 896, .null) else none)) else
     (bif Nat.blt pc 43 then (bif Nat.beq pc 42 then some (.aload_n 0, 1, 0, 0, 0, mj_u) else none) else
      (bif Nat.blt pc 44 then (bif Nat.beq pc 43 then some (.iload_n 1, 1, 1, 0, 0, mj_u) else none) else
       (bif Nat.beq pc 44 then some (.iload_n 2, 1, 2, 0, 0, mj_u) else none)))) else
    (bif Nat.blt pc 49 then (bif Nat.blt pc 48 then (bif Nat.beq pc 45 then some (.invokevirtual 66, 3, 121, 0, 945, mj_u) else none) else
      (bif Nat.beq pc 48 then some (.iaload, 1, 0, 0, 0, mj_u) else none)) else
     (bif Nat.blt pc 51 then (bif Nat.beq pc 49 then some (.istore 4, 2, 4, 0, 0, mj_u) else none) else
      (bif Nat.blt pc 52 then (bif Nat.beq pc 51 then some (.aload_n 0, 1, 0, 0, 0, mj_u) else none) else
       (bif Nat.beq pc 52 then some (.aload_n 0, 1, 0, 0, 0, mj_u) else none))))) else
   (bif Nat.blt pc 62 then (bif Nat.blt pc 57 then (bif Nat.blt pc 56 then (bif Nat.beq pc 53 then some (.getfield 23, 3, 10, 1, 905, .null) else none) else
      (bif Nat.beq pc 56 then some (.aload_n 0, 1, 0, 0, 0, mj_u) else none)) else
     (bif Nat.blt pc 58 then (bif Nat.beq pc 57 then some (.iload_n 1, 1, 1, 0, 0, mj_u) else none) else
      (bif Nat.blt pc 59 then (bif Nat.beq pc 58 then some (.iload_n 2, 1, 2, 0, 0, mj_u) else none) else
       (bif Nat.beq pc 59 then some (.invokevirtual 66, 3, 121, 0, 945, mj_u) else none)))) else
    (bif Nat.blt pc 66 then (bif Nat.blt pc 63 then (bif Nat.beq pc 62 then some (.iload_n 3, 1, 3, 0, 0, mj_u) else none) else
      (bif Nat.beq pc 63 then some (.invokevirtual 69, 3, 122, 0, 949, mj_u) else none)) else
     (bif Nat.blt pc 69 then (bif Nat.beq pc 66 then some (.putfield 23, 3, 10, 1, 905, .null) else none) else
      (bif Nat.blt pc 71 then (bif Nat.beq pc 69 then some (.iload 4, 2, 4, 0, 0, mj_u) else none) else
       (bif Nat.beq pc 71 then some (.ireturn, 1, 0, 0, 0, mj_u) else none))))))
def m_M_set : mj_M := (118, prog_11_method_13_code, 5, (Option.some Jvm.ClassFile.FieldType.int), 10, 3, 936, 934, 935, 55, 72, k_M_set)
/-- WatershedMapModel.isNoField(II)Z -/
def k_M_isNoField : Nat → Option mj_I := fun pc =>
  bif Nat.blt pc 4 then (bif Nat.blt pc 2 then (bif Nat.blt pc 1 then (bif Nat.beq pc 0 then some (.aload_n 0, 1, 0, 0, 0, mj_u) else none) else
    (bif Nat.beq pc 1 then some (.aload_n 0, 1, 0, 0, 0, mj_u) else none)) else
   (bif Nat.blt pc 3 then (bif Nat.beq pc 2 then some (.iload_n 1, 1, 1, 0, 0, mj_u) else none) else
    (bif Nat.beq pc 3 then some (.iload_n 2, 1, 2, 0, 0, mj_u) else none))) else
  (bif Nat.blt pc 8 then (bif Nat.blt pc 7 then (bif Nat.beq pc 4 then some (.invokevirtual 48, 3, 120, 0, 941, mj_u) else none) else
    (bif Nat.beq pc 7 then some (.iconst 1, 1, 0, 0, 0, .int 1) else none)) else
   (bif Nat.blt pc 11 then (bif Nat.beq pc 8 then some (.invokevirtual 52, 3, 116, 0, 925, mj_u) else none) else
    (bif Nat.beq pc 11 then some (.ireturn, 1, 0, 0, 0, mj_u) else none)))
def m_M_isNoField : mj_M := (119, prog_11_method_9_code, 3, (Option.some Jvm.ClassFile.FieldType.boolean), 10, 2, 940, 939, 28, 55, 12, k_M_isNoField)
/-- WatershedMapModel.isNo(II)Z -/
def k_M_isNo : Nat → Option mj_I := fun pc =>
  bif Nat.blt pc 19 then (bif Nat.blt pc 9 then (bif Nat.blt pc 2 then (bif Nat.blt pc 1 then (bif Nat.beq pc 0 then some (.iload_n 1, 1, 1, 0, 0, mj_u) else none) else
     (bif Nat.beq pc 1 then some (.iconst 0, 1, 0, 0, 0, .int 0) else none)) else
    (bif Nat.blt pc 3 then (bif Nat.beq pc 2 then some (.aload_n 0, 1, 0, 0, 0, mj_u) else none) else
     (bif Nat.blt pc 6 then (bif Nat.beq pc 3 then some (.getfield 23, 3, 10, 1, 905, .null) else none) else
      (bif Nat.beq pc 6 then some (.getfield 38, 3, 9, 0, 892, .int 0) else none)))) else
   (bif Nat.blt pc 14 then (bif Nat.blt pc 10 then (bif Nat.beq pc 9 then some (.iconst 1, 1, 0, 0, 0, .int 1) else none) else
     (bif Nat.blt pc 11 then (bif Nat.beq pc 10 then some (.isub, 1, 0, 0, 0, mj_u) else none) else
      (bif Nat.beq pc 11 then some (.invokestatic 41, 3, 115, 0, 922, mj_u) else none))) else
    (bif Nat.blt pc 17 then (bif Nat.beq pc 14 then some (.ifCond .eq 20, 3, 34, 0, 0, mj_u) else none) else
     (bif Nat.blt pc 18 then (bif Nat.beq pc 17 then some (.iload_n 2, 1, 2, 0, 0, mj_u) else none) else
      (bif Nat.beq pc 18 then some (.iconst 0, 1, 0, 0, 0, .int 0) else none))))) else
  (bif Nat.blt pc 28 then (bif Nat.blt pc 23 then (bif Nat.blt pc 20 then (bif Nat.beq pc 19 then some (.aload_n 0, 1, 0, 0, 0, mj_u) else none) else
     (bif Nat.beq pc 20 then some (.getfield 23, 3, 10, 1, 905, .null) else none)) else
    (bif Nat.blt pc 26 then (bif Nat.beq pc 23 then some (.getfield 45, 3, 9, 1, 894, .int 0) else none) else
     (bif Nat.blt pc 27 then (bif Nat.beq pc 26 then some (.iconst 1, 1, 0, 0, 0, .int 1) else none) else
      (bif Nat.beq pc 27 then some (.isub, 1, 0, 0, 0, mj_u) else none)))) else
   (bif Nat.blt pc 35 then (bif Nat.blt pc 31 then (bif Nat.beq pc 28 then some (.invokestatic 41, 3, 115, 0, 922, mj_u) else none) else
     (bif Nat.blt pc 34 then (bif Nat.beq pc 31 then some (.ifCond .ne 7, 3, 38, 0, 0, mj_u) else none) else
      (bif Nat.beq pc 34 then some (.iconst 1, 1, 0, 0, 0, .int 1) else none))) else
    (bif Nat.blt pc 38 then (bif Nat.beq pc 35 then some (.goto 4, 3, 39, 0, 0, mj_u) else none) else
     (bif Nat.blt pc 39 then (bif Nat.beq pc 38 then some (.iconst 0, 1, 0, 0, 0, .int 0) else none) else
      (bif Nat.beq pc 39 then some (.ireturn, 1, 0, 0, 0, mj_u) else none)))))
def m_M_isNo : mj_M := (120, prog_11_method_8_code, 3, (Option.some Jvm.ClassFile.FieldType.boolean), 10, 2, 944, 943, 29, 55, 40, k_M_isNo)
/-- WatershedMapModel.number(II)I -/
def k_M_number : Nat → Option mj_I := fun pc =>
  bif Nat.blt pc 8 then (bif Nat.blt pc 2 then (bif Nat.blt pc 1 then (bif Nat.beq pc 0 then some (.iload_n 2, 1, 2, 0, 0, mj_u) else none) else
    (bif Nat.beq pc 1 then some (.aload_n 0, 1, 0, 0, 0, mj_u) else none)) else
   (bif Nat.blt pc 5 then (bif Nat.beq pc 2 then some (.getfield 23, 3, 10, 1, 905, .null) else none) else
    (bif Nat.beq pc 5 then some (.getfield 38, 3, 9, 0, 892, .int 0) else none))) else
  (bif Nat.blt pc 10 then (bif Nat.blt pc 9 then (bif Nat.beq pc 8 then some (.imul, 1, 0, 0, 0, mj_u) else none) else
    (bif Nat.beq pc 9 then some (.iload_n 1, 1, 1, 0, 0, mj_u) else none)) else
   (bif Nat.blt pc 11 then (bif Nat.beq pc 10 then some (.iadd, 1, 0, 0, 0, mj_u) else none) else
    (bif Nat.beq pc 11 then some (.ireturn, 1, 0, 0, 0, mj_u) else none)))
def m_M_number : mj_M := (121, prog_11_method_10_code, 3, (Option.some Jvm.ClassFile.FieldType.int), 10, 2, 948, 947, 30, 55, 12, k_M_number)
/-- WatershedMapModel$Land.with(II)LWatershedMapModel$Land; -/
def k_ML_with : Nat → Option mj_I := fun pc =>
  bif Nat.blt pc 15 then (bif Nat.blt pc 10 then (bif Nat.blt pc 4 then (bif Nat.blt pc 1 then (bif Nat.beq pc 0 then some (.aload_n 0, 1, 0, 0, 0, mj_u) else none) else
     (bif Nat.beq pc 1 then some (.getfield 18, 3, 9, 2, 895, .null) else none)) else
    (bif Nat.blt pc 7 then (bif Nat.beq pc 4 then some (.invokevirtual 28, 3, 1002, 0, 953, mj_u) else none) else
     (bif Nat.beq pc 7 then some (.checkcast 29, 3, 0, 0, 0, mj_u) else none))) else
   (bif Nat.blt pc 12 then (bif Nat.blt pc 11 then (bif Nat.beq pc 10 then some (.astore_n 3, 1, 3, 0, 0, mj_u) else none) else
     (bif Nat.beq pc 11 then some (.aload_n 3, 1, 3, 0, 0, mj_u) else none)) else
    (bif Nat.blt pc 13 then (bif Nat.beq pc 12 then some (.iload_n 1, 1, 1, 0, 0, mj_u) else none) else
     (bif Nat.blt pc 14 then (bif Nat.beq pc 13 then some (.iload_n 2, 1, 2, 0, 0, mj_u) else none) else
      (bif Nat.beq pc 14 then some (.iastore, 1, 0, 0, 0, mj_u) else none))))) else
  (bif Nat.blt pc 23 then (bif Nat.blt pc 19 then (bif Nat.blt pc 18 then (bif Nat.beq pc 15 then some (.new 10, 3, 9, 886, 960, mj_u) else none) else
     (bif Nat.beq pc 18 then some (.dup, 1, 0, 0, 0, mj_u) else none)) else
    (bif Nat.blt pc 20 then (bif Nat.beq pc 19 then some (.aload_n 0, 1, 0, 0, 0, mj_u) else none) else
     (bif Nat.beq pc 20 then some (.getfield 9, 3, 9, 0, 891, .int 0) else none))) else
   (bif Nat.blt pc 27 then (bif Nat.blt pc 24 then (bif Nat.beq pc 23 then some (.aload_n 0, 1, 0, 0, 0, mj_u) else none) else
     (bif Nat.beq pc 24 then some (.getfield 15, 3, 9, 1, 893, .int 0) else none)) else
    (bif Nat.blt pc 28 then (bif Nat.beq pc 27 then some (.aload_n 3, 1, 3, 0, 0, mj_u) else none) else
     (bif Nat.blt pc 31 then (bif Nat.beq pc 28 then some (.invokespecial 33, 3, 112, 0, 961, mj_u) else none) else
      (bif Nat.beq pc 31 then some (.areturn, 1, 0, 0, 0, mj_u) else none)))))
def m_ML_with : mj_M := (122, prog_12_method_5_code, 4, (Option.some (Jvm.ClassFile.FieldType.object "WatershedMapModel$Land")), 9, 2, 952, 950, 951, 56, 32, k_ML_with)
/-- WatershedMapModel.tilt(III)I -/
def k_M_tilt : Nat → Option mj_I := fun pc =>
  bif Nat.blt pc 92 then (bif Nat.blt pc 46 then (bif Nat.blt pc 23 then (bif Nat.blt pc 9 then (bif Nat.blt pc 2 then (bif Nat.blt pc 1 then (bif Nat.beq pc 0 then some (.aload_n 0, 1, 0, 0, 0, mj_u) else none) else
       (bif Nat.beq pc 1 then some (.iload_n 1, 1, 1, 0, 0, mj_u) else none)) else
      (bif Nat.blt pc 4 then (bif Nat.beq pc 2 then some (.bipush (-100), 2, 0, 0, 0, .int (-100)) else none) else
       (bif Nat.blt pc 6 then (bif Nat.beq pc 4 then some (.bipush 100, 2, 0, 0, 0, .int 100) else none) else
        (bif Nat.beq pc 6 then some (.invokestatic 41, 3, 115, 0, 922, mj_u) else none)))) else
     (bif Nat.blt pc 15 then (bif Nat.blt pc 12 then (bif Nat.beq pc 9 then some (.ifCond .eq 25, 3, 34, 0, 0, mj_u) else none) else
       (bif Nat.blt pc 13 then (bif Nat.beq pc 12 then some (.iload_n 2, 1, 2, 0, 0, mj_u) else none) else
        (bif Nat.beq pc 13 then some (.bipush (-100), 2, 0, 0, 0, .int (-100)) else none))) else
      (bif Nat.blt pc 17 then (bif Nat.beq pc 15 then some (.bipush 100, 2, 0, 0, 0, .int 100) else none) else
       (bif Nat.blt pc 20 then (bif Nat.beq pc 17 then some (.invokestatic 41, 3, 115, 0, 922, mj_u) else none) else
        (bif Nat.beq pc 20 then some (.ifCond .eq 14, 3, 34, 0, 0, mj_u) else none))))) else
    (bif Nat.blt pc 34 then (bif Nat.blt pc 26 then (bif Nat.blt pc 24 then (bif Nat.beq pc 23 then some (.iload_n 3, 1, 3, 0, 0, mj_u) else none) else
       (bif Nat.beq pc 24 then some (.bipush (-100), 2, 0, 0, 0, .int (-100)) else none)) else
      (bif Nat.blt pc 28 then (bif Nat.beq pc 26 then some (.bipush 100, 2, 0, 0, 0, .int 100) else none) else
       (bif Nat.blt pc 31 then (bif Nat.beq pc 28 then some (.invokestatic 41, 3, 115, 0, 922, mj_u) else none) else
        (bif Nat.beq pc 31 then some (.ifCond .ne 7, 3, 38, 0, 0, mj_u) else none)))) else
     (bif Nat.blt pc 39 then (bif Nat.blt pc 35 then (bif Nat.beq pc 34 then some (.iconst 1, 1, 0, 0, 0, .int 1) else none) else
       (bif Nat.blt pc 38 then (bif Nat.beq pc 35 then some (.goto 4, 3, 39, 0, 0, mj_u) else none) else
        (bif Nat.beq pc 38 then some (.iconst 0, 1, 0, 0, 0, .int 0) else none))) else
      (bif Nat.blt pc 40 then (bif Nat.beq pc 39 then some (.iconst 1, 1, 0, 0, 0, .int 1) else none) else
       (bif Nat.blt pc 43 then (bif Nat.beq pc 40 then some (.invokevirtual 52, 3, 116, 0, 925, mj_u) else none) else
        (bif Nat.beq pc 43 then some (.ifCond .eq 5, 3, 48, 0, 0, mj_u) else none)))))) else
   (bif Nat.blt pc 68 then (bif Nat.blt pc 55 then (bif Nat.blt pc 48 then (bif Nat.blt pc 47 then (bif Nat.beq pc 46 then some (.iconst 0, 1, 0, 0, 0, .int 0) else none) else
       (bif Nat.beq pc 47 then some (.ireturn, 1, 0, 0, 0, mj_u) else none)) else
      (bif Nat.blt pc 49 then (bif Nat.beq pc 48 then some (.aload_n 0, 1, 0, 0, 0, mj_u) else none) else
       (bif Nat.blt pc 52 then (bif Nat.beq pc 49 then some (.getfield 23, 3, 10, 1, 905, .null) else none) else
        (bif Nat.beq pc 52 then some (.getfield 55, 3, 9, 2, 896, .null) else none)))) else
     (bif Nat.blt pc 63 then (bif Nat.blt pc 58 then (bif Nat.beq pc 55 then some (.invokevirtual 73, 3, 1002, 0, 966, mj_u) else none) else
       (bif Nat.blt pc 61 then (bif Nat.beq pc 58 then some (.checkcast 74, 3, 0, 0, 0, mj_u) else none) else
        (bif Nat.beq pc 61 then some (.astore 4, 2, 4, 0, 0, mj_u) else none))) else
      (bif Nat.blt pc 64 then (bif Nat.beq pc 63 then some (.iconst 0, 1, 0, 0, 0, .int 0) else none) else
       (bif Nat.blt pc 66 then (bif Nat.beq pc 64 then some (.istore 5, 2, 5, 0, 0, mj_u) else none) else
        (bif Nat.beq pc 66 then some (.iload 5, 2, 5, 0, 0, mj_u) else none))))) else
    (bif Nat.blt pc 80 then (bif Nat.blt pc 74 then (bif Nat.blt pc 70 then (bif Nat.beq pc 68 then some (.aload 4, 2, 4, 0, 0, mj_u) else none) else
       (bif Nat.blt pc 71 then (bif Nat.beq pc 70 then some (.arraylength, 1, 0, 0, 0, mj_u) else none) else
        (bif Nat.beq pc 71 then some (.if_icmp .ge 81, 3, 152, 0, 0, mj_u) else none))) else
      (bif Nat.blt pc 76 then (bif Nat.beq pc 74 then some (.iload 5, 2, 5, 0, 0, mj_u) else none) else
       (bif Nat.blt pc 77 then (bif Nat.beq pc 76 then some (.aload_n 0, 1, 0, 0, 0, mj_u) else none) else
        (bif Nat.beq pc 77 then some (.getfield 23, 3, 10, 1, 905, .null) else none)))) else
     (bif Nat.blt pc 86 then (bif Nat.blt pc 83 then (bif Nat.beq pc 80 then some (.getfield 38, 3, 9, 0, 892, .int 0) else none) else
       (bif Nat.blt pc 84 then (bif Nat.beq pc 83 then some (.irem, 1, 0, 0, 0, mj_u) else none) else
        (bif Nat.beq pc 84 then some (.istore 6, 2, 6, 0, 0, mj_u) else none))) else
      (bif Nat.blt pc 88 then (bif Nat.beq pc 86 then some (.iload 5, 2, 5, 0, 0, mj_u) else none) else
       (bif Nat.blt pc 89 then (bif Nat.beq pc 88 then some (.aload_n 0, 1, 0, 0, 0, mj_u) else none) else
        (bif Nat.beq pc 89 then some (.getfield 23, 3, 10, 1, 905, .null) else none))))))) else
  (bif Nat.blt pc 128 then (bif Nat.blt pc 111 then (bif Nat.blt pc 102 then (bif Nat.blt pc 96 then (bif Nat.blt pc 95 then (bif Nat.beq pc 92 then some (.getfield 38, 3, 9, 0, 892, .int 0) else none) else
       (bif Nat.beq pc 95 then some (.idiv, 1, 0, 0, 0, mj_u) else none)) else
      (bif Nat.blt pc 98 then (bif Nat.beq pc 96 then some (.istore 7, 2, 7, 0, 0, mj_u) else none) else
       (bif Nat.blt pc 100 then (bif Nat.beq pc 98 then some (.aload 4, 2, 4, 0, 0, mj_u) else none) else
        (bif Nat.beq pc 100 then some (.iload 5, 2, 5, 0, 0, mj_u) else none)))) else
     (bif Nat.blt pc 107 then (bif Nat.blt pc 104 then (bif Nat.beq pc 102 then some (.aload 4, 2, 4, 0, 0, mj_u) else none) else
       (bif Nat.blt pc 106 then (bif Nat.beq pc 104 then some (.iload 5, 2, 5, 0, 0, mj_u) else none) else
        (bif Nat.beq pc 106 then some (.iaload, 1, 0, 0, 0, mj_u) else none))) else
      (bif Nat.blt pc 108 then (bif Nat.beq pc 107 then some (.iload_n 1, 1, 1, 0, 0, mj_u) else none) else
       (bif Nat.blt pc 110 then (bif Nat.beq pc 108 then some (.iload 6, 2, 6, 0, 0, mj_u) else none) else
        (bif Nat.beq pc 110 then some (.imul, 1, 0, 0, 0, mj_u) else none))))) else
    (bif Nat.blt pc 119 then (bif Nat.blt pc 115 then (bif Nat.blt pc 112 then (bif Nat.beq pc 111 then some (.iadd, 1, 0, 0, 0, mj_u) else none) else
       (bif Nat.blt pc 113 then (bif Nat.beq pc 112 then some (.iload_n 2, 1, 2, 0, 0, mj_u) else none) else
        (bif Nat.beq pc 113 then some (.iload 7, 2, 7, 0, 0, mj_u) else none))) else
      (bif Nat.blt pc 116 then (bif Nat.beq pc 115 then some (.imul, 1, 0, 0, 0, mj_u) else none) else
       (bif Nat.blt pc 117 then (bif Nat.beq pc 116 then some (.iadd, 1, 0, 0, 0, mj_u) else none) else
        (bif Nat.beq pc 117 then some (.iload 6, 2, 6, 0, 0, mj_u) else none)))) else
     (bif Nat.blt pc 124 then (bif Nat.blt pc 121 then (bif Nat.beq pc 119 then some (.bipush 7, 2, 0, 0, 0, .int 7) else none) else
       (bif Nat.blt pc 122 then (bif Nat.beq pc 121 then some (.imul, 1, 0, 0, 0, mj_u) else none) else
        (bif Nat.beq pc 122 then some (.iload 7, 2, 7, 0, 0, mj_u) else none))) else
      (bif Nat.blt pc 126 then (bif Nat.beq pc 124 then some (.bipush 13, 2, 0, 0, 0, .int 13) else none) else
       (bif Nat.blt pc 127 then (bif Nat.beq pc 126 then some (.imul, 1, 0, 0, 0, mj_u) else none) else
        (bif Nat.beq pc 127 then some (.iadd, 1, 0, 0, 0, mj_u) else none)))))) else
   (bif Nat.blt pc 142 then (bif Nat.blt pc 135 then (bif Nat.blt pc 132 then (bif Nat.blt pc 130 then (bif Nat.beq pc 128 then some (.iload 6, 2, 6, 0, 0, mj_u) else none) else
       (bif Nat.beq pc 130 then some (.iload 7, 2, 7, 0, 0, mj_u) else none)) else
      (bif Nat.blt pc 133 then (bif Nat.beq pc 132 then some (.imul, 1, 0, 0, 0, mj_u) else none) else
       (bif Nat.blt pc 134 then (bif Nat.beq pc 133 then some (.iconst 5, 1, 0, 0, 0, .int 5) else none) else
        (bif Nat.beq pc 134 then some (.imul, 1, 0, 0, 0, mj_u) else none)))) else
     (bif Nat.blt pc 139 then (bif Nat.blt pc 136 then (bif Nat.beq pc 135 then some (.iadd, 1, 0, 0, 0, mj_u) else none) else
       (bif Nat.blt pc 138 then (bif Nat.beq pc 136 then some (.bipush 17, 2, 0, 0, 0, .int 17) else none) else
        (bif Nat.beq pc 138 then some (.irem, 1, 0, 0, 0, mj_u) else none))) else
      (bif Nat.blt pc 140 then (bif Nat.beq pc 139 then some (.iload_n 3, 1, 3, 0, 0, mj_u) else none) else
       (bif Nat.blt pc 141 then (bif Nat.beq pc 140 then some (.imul, 1, 0, 0, 0, mj_u) else none) else
        (bif Nat.beq pc 141 then some (.iadd, 1, 0, 0, 0, mj_u) else none))))) else
    (bif Nat.blt pc 155 then (bif Nat.blt pc 149 then (bif Nat.blt pc 145 then (bif Nat.beq pc 142 then some (.invokestatic 78, 3, 124, 0, 968, mj_u) else none) else
       (bif Nat.blt pc 146 then (bif Nat.beq pc 145 then some (.iastore, 1, 0, 0, 0, mj_u) else none) else
        (bif Nat.beq pc 146 then some (.iinc 5 1, 3, 5, 0, 0, .int 1) else none))) else
      (bif Nat.blt pc 152 then (bif Nat.beq pc 149 then some (.goto (-83), 3, 66, 0, 0, mj_u) else none) else
       (bif Nat.blt pc 153 then (bif Nat.beq pc 152 then some (.aload_n 0, 1, 0, 0, 0, mj_u) else none) else
        (bif Nat.beq pc 153 then some (.aload 4, 2, 4, 0, 0, mj_u) else none)))) else
     (bif Nat.blt pc 160 then (bif Nat.blt pc 158 then (bif Nat.beq pc 155 then some (.invokevirtual 82, 3, 125, 0, 973, mj_u) else none) else
       (bif Nat.blt pc 159 then (bif Nat.beq pc 158 then some (.pop, 1, 0, 0, 0, mj_u) else none) else
        (bif Nat.beq pc 159 then some (.aload_n 0, 1, 0, 0, 0, mj_u) else none))) else
      (bif Nat.blt pc 163 then (bif Nat.beq pc 160 then some (.getfield 23, 3, 10, 1, 905, .null) else none) else
       (bif Nat.blt pc 166 then (bif Nat.beq pc 163 then some (.invokevirtual 85, 3, 128, 0, 985, mj_u) else none) else
        (bif Nat.beq pc 166 then some (.ireturn, 1, 0, 0, 0, mj_u) else none)))))))
def m_M_tilt : mj_M := (123, prog_11_method_14_code, 8, (Option.some Jvm.ClassFile.FieldType.int), 10, 3, 965, 963, 964, 55, 167, k_M_tilt)
/-- WatershedMapModel.bound(I)I static -/
def k_M_bound : Nat → Option mj_I := fun pc =>
  bif Nat.blt pc 5 then (bif Nat.blt pc 1 then (bif Nat.beq pc 0 then some (.iconst 0, 1, 0, 0, 0, .int 0) else none) else
   (bif Nat.blt pc 4 then (bif Nat.beq pc 1 then some (.sipush 999, 3, 0, 0, 0, .int 999) else none) else
    (bif Nat.beq pc 4 then some (.iload_n 0, 1, 0, 0, 0, mj_u) else none))) else
  (bif Nat.blt pc 8 then (bif Nat.beq pc 5 then some (.invokestatic 3, 3, 59, 0, 971, mj_u) else none) else
   (bif Nat.blt pc 11 then (bif Nat.beq pc 8 then some (.invokestatic 9, 3, 26, 0, 972, mj_u) else none) else
    (bif Nat.beq pc 11 then some (.ireturn, 1, 0, 0, 0, mj_u) else none)))
def m_M_bound : mj_M := (124, prog_11_method_1_code, 1, (Option.some Jvm.ClassFile.FieldType.int), 10, 1, 970, 969, 0, 55, 12, k_M_bound)
/-- WatershedMapModel.take([I)I -/
def k_M_take : Nat → Option mj_I := fun pc =>
  bif Nat.blt pc 20 then (bif Nat.blt pc 9 then (bif Nat.blt pc 4 then (bif Nat.blt pc 1 then (bif Nat.beq pc 0 then some (.aload_n 0, 1, 0, 0, 0, mj_u) else none) else
     (bif Nat.beq pc 1 then some (.getfield 23, 3, 10, 1, 905, .null) else none)) else
    (bif Nat.blt pc 7 then (bif Nat.beq pc 4 then some (.getfield 55, 3, 9, 2, 896, .null) else none) else
     (bif Nat.blt pc 8 then (bif Nat.beq pc 7 then some (.astore_n 2, 1, 2, 0, 0, mj_u) else none) else
      (bif Nat.beq pc 8 then some (.aload_n 0, 1, 0, 0, 0, mj_u) else none)))) else
   (bif Nat.blt pc 13 then (bif Nat.blt pc 12 then (bif Nat.beq pc 9 then some (.new 18, 3, 9, 886, 885, mj_u) else none) else
     (bif Nat.beq pc 12 then some (.dup, 1, 0, 0, 0, mj_u) else none)) else
    (bif Nat.blt pc 14 then (bif Nat.beq pc 13 then some (.aload_n 0, 1, 0, 0, 0, mj_u) else none) else
     (bif Nat.blt pc 17 then (bif Nat.beq pc 14 then some (.getfield 23, 3, 10, 1, 905, .null) else none) else
      (bif Nat.beq pc 17 then some (.getfield 38, 3, 9, 0, 892, .int 0) else none))))) else
  (bif Nat.blt pc 31 then (bif Nat.blt pc 24 then (bif Nat.blt pc 21 then (bif Nat.beq pc 20 then some (.aload_n 0, 1, 0, 0, 0, mj_u) else none) else
     (bif Nat.beq pc 21 then some (.getfield 23, 3, 10, 1, 905, .null) else none)) else
    (bif Nat.blt pc 27 then (bif Nat.beq pc 24 then some (.getfield 45, 3, 9, 1, 894, .int 0) else none) else
     (bif Nat.blt pc 28 then (bif Nat.beq pc 27 then some (.aload_n 1, 1, 1, 0, 0, mj_u) else none) else
      (bif Nat.beq pc 28 then some (.invokespecial 20, 3, 112, 0, 887, mj_u) else none)))) else
   (bif Nat.blt pc 38 then (bif Nat.blt pc 34 then (bif Nat.beq pc 31 then some (.putfield 23, 3, 10, 1, 905, .null) else none) else
     (bif Nat.blt pc 35 then (bif Nat.beq pc 34 then some (.aload_n 0, 1, 0, 0, 0, mj_u) else none) else
      (bif Nat.beq pc 35 then some (.getfield 23, 3, 10, 1, 905, .null) else none))) else
    (bif Nat.blt pc 39 then (bif Nat.beq pc 38 then some (.aload_n 2, 1, 2, 0, 0, mj_u) else none) else
     (bif Nat.blt pc 42 then (bif Nat.beq pc 39 then some (.invokevirtual 59, 3, 126, 0, 977, mj_u) else none) else
      (bif Nat.beq pc 42 then some (.ireturn, 1, 0, 0, 0, mj_u) else none)))))
def m_M_take : mj_M := (125, prog_11_method_11_code, 3, (Option.some Jvm.ClassFile.FieldType.int), 10, 1, 976, 975, 31, 55, 43, k_M_take)
/-- WatershedMapModel$Land.others([I)I -/
def k_ML_others : Nat → Option mj_I := fun pc =>
  bif Nat.blt pc 19 then (bif Nat.blt pc 6 then (bif Nat.blt pc 3 then (bif Nat.blt pc 1 then (bif Nat.beq pc 0 then some (.iconst 0, 1, 0, 0, 0, .int 0) else none) else
     (bif Nat.blt pc 2 then (bif Nat.beq pc 1 then some (.istore_n 2, 1, 2, 0, 0, mj_u) else none) else
      (bif Nat.beq pc 2 then some (.iconst 0, 1, 0, 0, 0, .int 0) else none))) else
    (bif Nat.blt pc 4 then (bif Nat.beq pc 3 then some (.istore_n 3, 1, 3, 0, 0, mj_u) else none) else
     (bif Nat.blt pc 5 then (bif Nat.beq pc 4 then some (.iload_n 3, 1, 3, 0, 0, mj_u) else none) else
      (bif Nat.beq pc 5 then some (.aload_n 0, 1, 0, 0, 0, mj_u) else none)))) else
   (bif Nat.blt pc 13 then (bif Nat.blt pc 9 then (bif Nat.beq pc 6 then some (.invokevirtual 45, 3, 127, 0, 981, mj_u) else none) else
     (bif Nat.blt pc 12 then (bif Nat.beq pc 9 then some (.if_icmp .ge 29, 3, 38, 0, 0, mj_u) else none) else
      (bif Nat.beq pc 12 then some (.iload_n 2, 1, 2, 0, 0, mj_u) else none))) else
    (bif Nat.blt pc 17 then (bif Nat.blt pc 14 then (bif Nat.beq pc 13 then some (.aload_n 0, 1, 0, 0, 0, mj_u) else none) else
      (bif Nat.beq pc 14 then some (.getfield 18, 3, 9, 2, 895, .null) else none)) else
     (bif Nat.blt pc 18 then (bif Nat.beq pc 17 then some (.iload_n 3, 1, 3, 0, 0, mj_u) else none) else
      (bif Nat.beq pc 18 then some (.iaload, 1, 0, 0, 0, mj_u) else none))))) else
  (bif Nat.blt pc 29 then (bif Nat.blt pc 22 then (bif Nat.blt pc 20 then (bif Nat.beq pc 19 then some (.aload_n 1, 1, 1, 0, 0, mj_u) else none) else
     (bif Nat.blt pc 21 then (bif Nat.beq pc 20 then some (.iload_n 3, 1, 3, 0, 0, mj_u) else none) else
      (bif Nat.beq pc 21 then some (.iaload, 1, 0, 0, 0, mj_u) else none))) else
    (bif Nat.blt pc 25 then (bif Nat.beq pc 22 then some (.if_icmp .eq 7, 3, 29, 0, 0, mj_u) else none) else
     (bif Nat.blt pc 26 then (bif Nat.beq pc 25 then some (.iconst 1, 1, 0, 0, 0, .int 1) else none) else
      (bif Nat.beq pc 26 then some (.goto 4, 3, 30, 0, 0, mj_u) else none)))) else
   (bif Nat.blt pc 32 then (bif Nat.blt pc 30 then (bif Nat.beq pc 29 then some (.iconst 0, 1, 0, 0, 0, .int 0) else none) else
     (bif Nat.blt pc 31 then (bif Nat.beq pc 30 then some (.iadd, 1, 0, 0, 0, mj_u) else none) else
      (bif Nat.beq pc 31 then some (.istore_n 2, 1, 2, 0, 0, mj_u) else none))) else
    (bif Nat.blt pc 38 then (bif Nat.blt pc 35 then (bif Nat.beq pc 32 then some (.iinc 3 1, 3, 3, 0, 0, .int 1) else none) else
      (bif Nat.beq pc 35 then some (.goto (-31), 3, 4, 0, 0, mj_u) else none)) else
     (bif Nat.blt pc 39 then (bif Nat.beq pc 38 then some (.iload_n 2, 1, 2, 0, 0, mj_u) else none) else
      (bif Nat.beq pc 39 then some (.ireturn, 1, 0, 0, 0, mj_u) else none)))))
def m_ML_others : mj_M := (126, prog_12_method_9_code, 4, (Option.some Jvm.ClassFile.FieldType.int), 9, 1, 980, 978, 979, 56, 40, k_ML_others)
/-- WatershedMapModel$Land.size()I -/
def k_ML_size : Nat → Option mj_I := fun pc =>
  bif Nat.blt pc 4 then (bif Nat.blt pc 1 then (bif Nat.beq pc 0 then some (.aload_n 0, 1, 0, 0, 0, mj_u) else none) else
   (bif Nat.beq pc 1 then some (.getfield 18, 3, 9, 2, 895, .null) else none)) else
  (bif Nat.blt pc 5 then (bif Nat.beq pc 4 then some (.arraylength, 1, 0, 0, 0, mj_u) else none) else
   (bif Nat.beq pc 5 then some (.ireturn, 1, 0, 0, 0, mj_u) else none))
def m_ML_size : mj_M := (127, prog_12_method_2_code, 1, (Option.some Jvm.ClassFile.FieldType.int), 9, 0, 984, 982, 983, 56, 6, k_ML_size)
/-- WatershedMapModel$Land.greatest()I -/
def k_ML_greatest : Nat → Option mj_I := fun pc =>
  bif Nat.blt pc 16 then (bif Nat.blt pc 8 then (bif Nat.blt pc 3 then (bif Nat.blt pc 1 then (bif Nat.beq pc 0 then some (.iconst 0, 1, 0, 0, 0, .int 0) else none) else
     (bif Nat.blt pc 2 then (bif Nat.beq pc 1 then some (.istore_n 1, 1, 1, 0, 0, mj_u) else none) else
      (bif Nat.beq pc 2 then some (.aload_n 0, 1, 0, 0, 0, mj_u) else none))) else
    (bif Nat.blt pc 6 then (bif Nat.beq pc 3 then some (.getfield 18, 3, 9, 2, 895, .null) else none) else
     (bif Nat.blt pc 7 then (bif Nat.beq pc 6 then some (.astore_n 2, 1, 2, 0, 0, mj_u) else none) else
      (bif Nat.beq pc 7 then some (.aload_n 2, 1, 2, 0, 0, mj_u) else none)))) else
   (bif Nat.blt pc 11 then (bif Nat.blt pc 9 then (bif Nat.beq pc 8 then some (.arraylength, 1, 0, 0, 0, mj_u) else none) else
     (bif Nat.blt pc 10 then (bif Nat.beq pc 9 then some (.istore_n 3, 1, 3, 0, 0, mj_u) else none) else
      (bif Nat.beq pc 10 then some (.iconst 0, 1, 0, 0, 0, .int 0) else none))) else
    (bif Nat.blt pc 13 then (bif Nat.beq pc 11 then some (.istore 4, 2, 4, 0, 0, mj_u) else none) else
     (bif Nat.blt pc 15 then (bif Nat.beq pc 13 then some (.iload 4, 2, 4, 0, 0, mj_u) else none) else
      (bif Nat.beq pc 15 then some (.iload_n 3, 1, 3, 0, 0, mj_u) else none))))) else
  (bif Nat.blt pc 26 then (bif Nat.blt pc 22 then (bif Nat.blt pc 19 then (bif Nat.beq pc 16 then some (.if_icmp .ge 22, 3, 38, 0, 0, mj_u) else none) else
     (bif Nat.blt pc 20 then (bif Nat.beq pc 19 then some (.aload_n 2, 1, 2, 0, 0, mj_u) else none) else
      (bif Nat.beq pc 20 then some (.iload 4, 2, 4, 0, 0, mj_u) else none))) else
    (bif Nat.blt pc 23 then (bif Nat.beq pc 22 then some (.iaload, 1, 0, 0, 0, mj_u) else none) else
     (bif Nat.blt pc 25 then (bif Nat.beq pc 23 then some (.istore 5, 2, 5, 0, 0, mj_u) else none) else
      (bif Nat.beq pc 25 then some (.iload_n 1, 1, 1, 0, 0, mj_u) else none)))) else
   (bif Nat.blt pc 32 then (bif Nat.blt pc 28 then (bif Nat.beq pc 26 then some (.iload 5, 2, 5, 0, 0, mj_u) else none) else
     (bif Nat.blt pc 31 then (bif Nat.beq pc 28 then some (.invokestatic 42, 3, 26, 0, 989, mj_u) else none) else
      (bif Nat.beq pc 31 then some (.istore_n 1, 1, 1, 0, 0, mj_u) else none))) else
    (bif Nat.blt pc 38 then (bif Nat.blt pc 35 then (bif Nat.beq pc 32 then some (.iinc 4 1, 3, 4, 0, 0, .int 1) else none) else
      (bif Nat.beq pc 35 then some (.goto (-22), 3, 13, 0, 0, mj_u) else none)) else
     (bif Nat.blt pc 39 then (bif Nat.beq pc 38 then some (.iload_n 1, 1, 1, 0, 0, mj_u) else none) else
      (bif Nat.beq pc 39 then some (.ireturn, 1, 0, 0, 0, mj_u) else none)))))
def m_ML_greatest : mj_M := (128, prog_12_method_7_code, 6, (Option.some Jvm.ClassFile.FieldType.int), 9, 0, 988, 986, 987, 56, 40, k_ML_greatest)
/-- WatershedMapModel.hill(IIII)I -/
def k_M_hill : Nat → Option mj_I := fun pc =>
  bif Nat.blt pc 90 then (bif Nat.blt pc 46 then (bif Nat.blt pc 20 then (bif Nat.blt pc 9 then (bif Nat.blt pc 2 then (bif Nat.blt pc 1 then (bif Nat.beq pc 0 then some (.aload_n 0, 1, 0, 0, 0, mj_u) else none) else
       (bif Nat.beq pc 1 then some (.iload_n 1, 1, 1, 0, 0, mj_u) else none)) else
      (bif Nat.blt pc 3 then (bif Nat.beq pc 2 then some (.iload_n 2, 1, 2, 0, 0, mj_u) else none) else
       (bif Nat.blt pc 6 then (bif Nat.beq pc 3 then some (.invokevirtual 63, 3, 119, 0, 937, mj_u) else none) else
        (bif Nat.beq pc 6 then some (.ifCond .ne 40, 3, 46, 0, 0, mj_u) else none)))) else
     (bif Nat.blt pc 12 then (bif Nat.blt pc 10 then (bif Nat.beq pc 9 then some (.aload_n 0, 1, 0, 0, 0, mj_u) else none) else
       (bif Nat.blt pc 11 then (bif Nat.beq pc 10 then some (.iload_n 3, 1, 3, 0, 0, mj_u) else none) else
        (bif Nat.beq pc 11 then some (.iconst 0, 1, 0, 0, 0, .int 0) else none))) else
      (bif Nat.blt pc 14 then (bif Nat.beq pc 12 then some (.bipush 8, 2, 0, 0, 0, .int 8) else none) else
       (bif Nat.blt pc 17 then (bif Nat.beq pc 14 then some (.invokestatic 41, 3, 115, 0, 922, mj_u) else none) else
        (bif Nat.beq pc 17 then some (.ifCond .eq 17, 3, 34, 0, 0, mj_u) else none))))) else
    (bif Nat.blt pc 34 then (bif Nat.blt pc 25 then (bif Nat.blt pc 22 then (bif Nat.beq pc 20 then some (.iload 4, 2, 4, 0, 0, mj_u) else none) else
       (bif Nat.beq pc 22 then some (.sipush (-500), 3, 0, 0, 0, .int (-500)) else none)) else
      (bif Nat.blt pc 28 then (bif Nat.beq pc 25 then some (.sipush 500, 3, 0, 0, 0, .int 500) else none) else
       (bif Nat.blt pc 31 then (bif Nat.beq pc 28 then some (.invokestatic 41, 3, 115, 0, 922, mj_u) else none) else
        (bif Nat.beq pc 31 then some (.ifCond .ne 7, 3, 38, 0, 0, mj_u) else none)))) else
     (bif Nat.blt pc 39 then (bif Nat.blt pc 35 then (bif Nat.beq pc 34 then some (.iconst 1, 1, 0, 0, 0, .int 1) else none) else
       (bif Nat.blt pc 38 then (bif Nat.beq pc 35 then some (.goto 4, 3, 39, 0, 0, mj_u) else none) else
        (bif Nat.beq pc 38 then some (.iconst 0, 1, 0, 0, 0, .int 0) else none))) else
      (bif Nat.blt pc 40 then (bif Nat.beq pc 39 then some (.iconst 2, 1, 0, 0, 0, .int 2) else none) else
       (bif Nat.blt pc 43 then (bif Nat.beq pc 40 then some (.invokevirtual 34, 3, 117, 0, 929, mj_u) else none) else
        (bif Nat.beq pc 43 then some (.ifCond .eq 5, 3, 48, 0, 0, mj_u) else none)))))) else
   (bif Nat.blt pc 68 then (bif Nat.blt pc 55 then (bif Nat.blt pc 48 then (bif Nat.blt pc 47 then (bif Nat.beq pc 46 then some (.iconst 0, 1, 0, 0, 0, .int 0) else none) else
       (bif Nat.beq pc 47 then some (.ireturn, 1, 0, 0, 0, mj_u) else none)) else
      (bif Nat.blt pc 49 then (bif Nat.beq pc 48 then some (.aload_n 0, 1, 0, 0, 0, mj_u) else none) else
       (bif Nat.blt pc 52 then (bif Nat.beq pc 49 then some (.getfield 23, 3, 10, 1, 905, .null) else none) else
        (bif Nat.beq pc 52 then some (.getfield 55, 3, 9, 2, 896, .null) else none)))) else
     (bif Nat.blt pc 63 then (bif Nat.blt pc 58 then (bif Nat.beq pc 55 then some (.invokevirtual 73, 3, 1002, 0, 966, mj_u) else none) else
       (bif Nat.blt pc 61 then (bif Nat.beq pc 58 then some (.checkcast 74, 3, 0, 0, 0, mj_u) else none) else
        (bif Nat.beq pc 61 then some (.astore 5, 2, 5, 0, 0, mj_u) else none))) else
      (bif Nat.blt pc 64 then (bif Nat.beq pc 63 then some (.iconst 0, 1, 0, 0, 0, .int 0) else none) else
       (bif Nat.blt pc 66 then (bif Nat.beq pc 64 then some (.istore 6, 2, 6, 0, 0, mj_u) else none) else
        (bif Nat.beq pc 66 then some (.iload 6, 2, 6, 0, 0, mj_u) else none))))) else
    (bif Nat.blt pc 80 then (bif Nat.blt pc 74 then (bif Nat.blt pc 70 then (bif Nat.beq pc 68 then some (.aload 5, 2, 5, 0, 0, mj_u) else none) else
       (bif Nat.blt pc 71 then (bif Nat.beq pc 70 then some (.arraylength, 1, 0, 0, 0, mj_u) else none) else
        (bif Nat.beq pc 71 then some (.if_icmp .ge 86, 3, 157, 0, 0, mj_u) else none))) else
      (bif Nat.blt pc 76 then (bif Nat.beq pc 74 then some (.iload 6, 2, 6, 0, 0, mj_u) else none) else
       (bif Nat.blt pc 77 then (bif Nat.beq pc 76 then some (.aload_n 0, 1, 0, 0, 0, mj_u) else none) else
        (bif Nat.beq pc 77 then some (.getfield 23, 3, 10, 1, 905, .null) else none)))) else
     (bif Nat.blt pc 85 then (bif Nat.blt pc 83 then (bif Nat.beq pc 80 then some (.getfield 38, 3, 9, 0, 892, .int 0) else none) else
       (bif Nat.blt pc 84 then (bif Nat.beq pc 83 then some (.irem, 1, 0, 0, 0, mj_u) else none) else
        (bif Nat.beq pc 84 then some (.iload_n 1, 1, 1, 0, 0, mj_u) else none))) else
      (bif Nat.blt pc 86 then (bif Nat.beq pc 85 then some (.isub, 1, 0, 0, 0, mj_u) else none) else
       (bif Nat.blt pc 88 then (bif Nat.beq pc 86 then some (.istore 7, 2, 7, 0, 0, mj_u) else none) else
        (bif Nat.beq pc 88 then some (.iload 6, 2, 6, 0, 0, mj_u) else none))))))) else
  (bif Nat.blt pc 127 then (bif Nat.blt pc 109 then (bif Nat.blt pc 99 then (bif Nat.blt pc 94 then (bif Nat.blt pc 91 then (bif Nat.beq pc 90 then some (.aload_n 0, 1, 0, 0, 0, mj_u) else none) else
       (bif Nat.beq pc 91 then some (.getfield 23, 3, 10, 1, 905, .null) else none)) else
      (bif Nat.blt pc 97 then (bif Nat.beq pc 94 then some (.getfield 38, 3, 9, 0, 892, .int 0) else none) else
       (bif Nat.blt pc 98 then (bif Nat.beq pc 97 then some (.idiv, 1, 0, 0, 0, mj_u) else none) else
        (bif Nat.beq pc 98 then some (.iload_n 2, 1, 2, 0, 0, mj_u) else none)))) else
     (bif Nat.blt pc 104 then (bif Nat.blt pc 100 then (bif Nat.beq pc 99 then some (.isub, 1, 0, 0, 0, mj_u) else none) else
       (bif Nat.blt pc 102 then (bif Nat.beq pc 100 then some (.istore 8, 2, 8, 0, 0, mj_u) else none) else
        (bif Nat.beq pc 102 then some (.iload 7, 2, 7, 0, 0, mj_u) else none))) else
      (bif Nat.blt pc 106 then (bif Nat.beq pc 104 then some (.iload 7, 2, 7, 0, 0, mj_u) else none) else
       (bif Nat.blt pc 107 then (bif Nat.beq pc 106 then some (.imul, 1, 0, 0, 0, mj_u) else none) else
        (bif Nat.beq pc 107 then some (.iload 8, 2, 8, 0, 0, mj_u) else none))))) else
    (bif Nat.blt pc 117 then (bif Nat.blt pc 112 then (bif Nat.blt pc 111 then (bif Nat.beq pc 109 then some (.iload 8, 2, 8, 0, 0, mj_u) else none) else
       (bif Nat.beq pc 111 then some (.imul, 1, 0, 0, 0, mj_u) else none)) else
      (bif Nat.blt pc 113 then (bif Nat.beq pc 112 then some (.iadd, 1, 0, 0, 0, mj_u) else none) else
       (bif Nat.blt pc 115 then (bif Nat.beq pc 113 then some (.istore 9, 2, 9, 0, 0, mj_u) else none) else
        (bif Nat.beq pc 115 then some (.iload 9, 2, 9, 0, 0, mj_u) else none)))) else
     (bif Nat.blt pc 120 then (bif Nat.blt pc 118 then (bif Nat.beq pc 117 then some (.iload_n 3, 1, 3, 0, 0, mj_u) else none) else
       (bif Nat.blt pc 119 then (bif Nat.beq pc 118 then some (.iload_n 3, 1, 3, 0, 0, mj_u) else none) else
        (bif Nat.beq pc 119 then some (.imul, 1, 0, 0, 0, mj_u) else none))) else
      (bif Nat.blt pc 123 then (bif Nat.beq pc 120 then some (.if_icmp .gt 31, 3, 151, 0, 0, mj_u) else none) else
       (bif Nat.blt pc 125 then (bif Nat.beq pc 123 then some (.aload 5, 2, 5, 0, 0, mj_u) else none) else
        (bif Nat.beq pc 125 then some (.iload 6, 2, 6, 0, 0, mj_u) else none)))))) else
   (bif Nat.blt pc 143 then (bif Nat.blt pc 135 then (bif Nat.blt pc 131 then (bif Nat.blt pc 129 then (bif Nat.beq pc 127 then some (.aload 5, 2, 5, 0, 0, mj_u) else none) else
       (bif Nat.beq pc 129 then some (.iload 6, 2, 6, 0, 0, mj_u) else none)) else
      (bif Nat.blt pc 132 then (bif Nat.beq pc 131 then some (.iaload, 1, 0, 0, 0, mj_u) else none) else
       (bif Nat.blt pc 134 then (bif Nat.beq pc 132 then some (.iload 4, 2, 4, 0, 0, mj_u) else none) else
        (bif Nat.beq pc 134 then some (.iadd, 1, 0, 0, 0, mj_u) else none)))) else
     (bif Nat.blt pc 140 then (bif Nat.blt pc 137 then (bif Nat.beq pc 135 then some (.iload 4, 2, 4, 0, 0, mj_u) else none) else
       (bif Nat.blt pc 139 then (bif Nat.beq pc 137 then some (.iload 9, 2, 9, 0, 0, mj_u) else none) else
        (bif Nat.beq pc 139 then some (.imul, 1, 0, 0, 0, mj_u) else none))) else
      (bif Nat.blt pc 141 then (bif Nat.beq pc 140 then some (.iload_n 3, 1, 3, 0, 0, mj_u) else none) else
       (bif Nat.blt pc 142 then (bif Nat.beq pc 141 then some (.iload_n 3, 1, 3, 0, 0, mj_u) else none) else
        (bif Nat.beq pc 142 then some (.imul, 1, 0, 0, 0, mj_u) else none))))) else
    (bif Nat.blt pc 151 then (bif Nat.blt pc 146 then (bif Nat.blt pc 144 then (bif Nat.beq pc 143 then some (.iconst 1, 1, 0, 0, 0, .int 1) else none) else
       (bif Nat.blt pc 145 then (bif Nat.beq pc 144 then some (.iadd, 1, 0, 0, 0, mj_u) else none) else
        (bif Nat.beq pc 145 then some (.idiv, 1, 0, 0, 0, mj_u) else none))) else
      (bif Nat.blt pc 147 then (bif Nat.beq pc 146 then some (.isub, 1, 0, 0, 0, mj_u) else none) else
       (bif Nat.blt pc 150 then (bif Nat.beq pc 147 then some (.invokestatic 78, 3, 124, 0, 968, mj_u) else none) else
        (bif Nat.beq pc 150 then some (.iastore, 1, 0, 0, 0, mj_u) else none)))) else
     (bif Nat.blt pc 158 then (bif Nat.blt pc 154 then (bif Nat.beq pc 151 then some (.iinc 6 1, 3, 6, 0, 0, .int 1) else none) else
       (bif Nat.blt pc 157 then (bif Nat.beq pc 154 then some (.goto (-88), 3, 66, 0, 0, mj_u) else none) else
        (bif Nat.beq pc 157 then some (.aload_n 0, 1, 0, 0, 0, mj_u) else none))) else
      (bif Nat.blt pc 160 then (bif Nat.beq pc 158 then some (.aload 5, 2, 5, 0, 0, mj_u) else none) else
       (bif Nat.blt pc 163 then (bif Nat.beq pc 160 then some (.invokevirtual 82, 3, 125, 0, 973, mj_u) else none) else
        (bif Nat.beq pc 163 then some (.ireturn, 1, 0, 0, 0, mj_u) else none)))))))
def m_M_hill : mj_M := (129, prog_11_method_15_code, 10, (Option.some Jvm.ClassFile.FieldType.int), 10, 4, 993, 991, 992, 55, 164, k_M_hill)
/-- WatershedMapModel.dig(IIIII)I -/
def k_M_dig : Nat → Option mj_I := fun pc =>
  bif Nat.blt pc 75 then (bif Nat.blt pc 35 then (bif Nat.blt pc 14 then (bif Nat.blt pc 4 then (bif Nat.blt pc 2 then (bif Nat.blt pc 1 then (bif Nat.beq pc 0 then some (.aload_n 0, 1, 0, 0, 0, mj_u) else none) else
       (bif Nat.beq pc 1 then some (.aload_n 0, 1, 0, 0, 0, mj_u) else none)) else
      (bif Nat.blt pc 3 then (bif Nat.beq pc 2 then some (.iload_n 1, 1, 1, 0, 0, mj_u) else none) else
       (bif Nat.beq pc 3 then some (.iload_n 2, 1, 2, 0, 0, mj_u) else none))) else
     (bif Nat.blt pc 10 then (bif Nat.blt pc 7 then (bif Nat.beq pc 4 then some (.invokevirtual 48, 3, 120, 0, 941, mj_u) else none) else
       (bif Nat.beq pc 7 then some (.ifCond .ne 13, 3, 20, 0, 0, mj_u) else none)) else
      (bif Nat.blt pc 11 then (bif Nat.beq pc 10 then some (.aload_n 0, 1, 0, 0, 0, mj_u) else none) else
       (bif Nat.blt pc 12 then (bif Nat.beq pc 11 then some (.iload_n 3, 1, 3, 0, 0, mj_u) else none) else
        (bif Nat.beq pc 12 then some (.iload 4, 2, 4, 0, 0, mj_u) else none))))) else
    (bif Nat.blt pc 25 then (bif Nat.blt pc 20 then (bif Nat.blt pc 17 then (bif Nat.beq pc 14 then some (.invokevirtual 48, 3, 120, 0, 941, mj_u) else none) else
       (bif Nat.beq pc 17 then some (.ifCond .eq 7, 3, 24, 0, 0, mj_u) else none)) else
      (bif Nat.blt pc 21 then (bif Nat.beq pc 20 then some (.iconst 1, 1, 0, 0, 0, .int 1) else none) else
       (bif Nat.blt pc 24 then (bif Nat.beq pc 21 then some (.goto 4, 3, 25, 0, 0, mj_u) else none) else
        (bif Nat.beq pc 24 then some (.iconst 0, 1, 0, 0, 0, .int 0) else none)))) else
     (bif Nat.blt pc 29 then (bif Nat.blt pc 26 then (bif Nat.beq pc 25 then some (.iconst 1, 1, 0, 0, 0, .int 1) else none) else
       (bif Nat.beq pc 26 then some (.invokevirtual 52, 3, 116, 0, 925, mj_u) else none)) else
      (bif Nat.blt pc 32 then (bif Nat.beq pc 29 then some (.ifCond .ne 28, 3, 57, 0, 0, mj_u) else none) else
       (bif Nat.blt pc 33 then (bif Nat.beq pc 32 then some (.aload_n 0, 1, 0, 0, 0, mj_u) else none) else
        (bif Nat.beq pc 33 then some (.iload 5, 2, 5, 0, 0, mj_u) else none)))))) else
   (bif Nat.blt pc 54 then (bif Nat.blt pc 45 then (bif Nat.blt pc 39 then (bif Nat.blt pc 36 then (bif Nat.beq pc 35 then some (.iconst 0, 1, 0, 0, 0, .int 0) else none) else
       (bif Nat.beq pc 36 then some (.sipush 999, 3, 0, 0, 0, .int 999) else none)) else
      (bif Nat.blt pc 42 then (bif Nat.beq pc 39 then some (.invokestatic 41, 3, 115, 0, 922, mj_u) else none) else
       (bif Nat.beq pc 42 then some (.ifCond .ne 7, 3, 49, 0, 0, mj_u) else none))) else
     (bif Nat.blt pc 49 then (bif Nat.blt pc 46 then (bif Nat.beq pc 45 then some (.iconst 1, 1, 0, 0, 0, .int 1) else none) else
       (bif Nat.beq pc 46 then some (.goto 4, 3, 50, 0, 0, mj_u) else none)) else
      (bif Nat.blt pc 50 then (bif Nat.beq pc 49 then some (.iconst 0, 1, 0, 0, 0, .int 0) else none) else
       (bif Nat.blt pc 51 then (bif Nat.beq pc 50 then some (.iconst 2, 1, 0, 0, 0, .int 2) else none) else
        (bif Nat.beq pc 51 then some (.invokevirtual 34, 3, 117, 0, 929, mj_u) else none))))) else
    (bif Nat.blt pc 63 then (bif Nat.blt pc 58 then (bif Nat.blt pc 57 then (bif Nat.beq pc 54 then some (.ifCond .eq 5, 3, 59, 0, 0, mj_u) else none) else
       (bif Nat.beq pc 57 then some (.iconst 0, 1, 0, 0, 0, .int 0) else none)) else
      (bif Nat.blt pc 59 then (bif Nat.beq pc 58 then some (.ireturn, 1, 0, 0, 0, mj_u) else none) else
       (bif Nat.blt pc 60 then (bif Nat.beq pc 59 then some (.aload_n 0, 1, 0, 0, 0, mj_u) else none) else
        (bif Nat.beq pc 60 then some (.getfield 23, 3, 10, 1, 905, .null) else none)))) else
     (bif Nat.blt pc 69 then (bif Nat.blt pc 66 then (bif Nat.beq pc 63 then some (.getfield 55, 3, 9, 2, 896, .null) else none) else
       (bif Nat.beq pc 66 then some (.invokevirtual 73, 3, 1002, 0, 966, mj_u) else none)) else
      (bif Nat.blt pc 72 then (bif Nat.beq pc 69 then some (.checkcast 74, 3, 0, 0, 0, mj_u) else none) else
       (bif Nat.blt pc 74 then (bif Nat.beq pc 72 then some (.astore 6, 2, 6, 0, 0, mj_u) else none) else
        (bif Nat.beq pc 74 then some (.aload_n 0, 1, 0, 0, 0, mj_u) else none))))))) else
  (bif Nat.blt pc 111 then (bif Nat.blt pc 91 then (bif Nat.blt pc 82 then (bif Nat.blt pc 77 then (bif Nat.blt pc 76 then (bif Nat.beq pc 75 then some (.iload_n 1, 1, 1, 0, 0, mj_u) else none) else
       (bif Nat.beq pc 76 then some (.iload_n 2, 1, 2, 0, 0, mj_u) else none)) else
      (bif Nat.blt pc 80 then (bif Nat.beq pc 77 then some (.invokevirtual 66, 3, 121, 0, 945, mj_u) else none) else
       (bif Nat.beq pc 80 then some (.istore 7, 2, 7, 0, 0, mj_u) else none))) else
     (bif Nat.blt pc 84 then (bif Nat.blt pc 83 then (bif Nat.beq pc 82 then some (.aload_n 0, 1, 0, 0, 0, mj_u) else none) else
       (bif Nat.beq pc 83 then some (.iload_n 3, 1, 3, 0, 0, mj_u) else none)) else
      (bif Nat.blt pc 86 then (bif Nat.beq pc 84 then some (.iload 4, 2, 4, 0, 0, mj_u) else none) else
       (bif Nat.blt pc 89 then (bif Nat.beq pc 86 then some (.invokevirtual 66, 3, 121, 0, 945, mj_u) else none) else
        (bif Nat.beq pc 89 then some (.istore 8, 2, 8, 0, 0, mj_u) else none))))) else
    (bif Nat.blt pc 100 then (bif Nat.blt pc 94 then (bif Nat.blt pc 92 then (bif Nat.beq pc 91 then some (.iconst 0, 1, 0, 0, 0, .int 0) else none) else
       (bif Nat.beq pc 92 then some (.istore 9, 2, 9, 0, 0, mj_u) else none)) else
      (bif Nat.blt pc 96 then (bif Nat.beq pc 94 then some (.iload 9, 2, 9, 0, 0, mj_u) else none) else
       (bif Nat.blt pc 97 then (bif Nat.beq pc 96 then some (.aload_n 0, 1, 0, 0, 0, mj_u) else none) else
        (bif Nat.beq pc 97 then some (.getfield 23, 3, 10, 1, 905, .null) else none)))) else
     (bif Nat.blt pc 104 then (bif Nat.blt pc 102 then (bif Nat.beq pc 100 then some (.iload 7, 2, 7, 0, 0, mj_u) else none) else
       (bif Nat.beq pc 102 then some (.iload 8, 2, 8, 0, 0, mj_u) else none)) else
      (bif Nat.blt pc 107 then (bif Nat.beq pc 104 then some (.invokevirtual 89, 3, 131, 0, 998, mj_u) else none) else
       (bif Nat.blt pc 110 then (bif Nat.beq pc 107 then some (.if_icmp .gt 39, 3, 146, 0, 0, mj_u) else none) else
        (bif Nat.beq pc 110 then some (.aload_n 0, 1, 0, 0, 0, mj_u) else none)))))) else
   (bif Nat.blt pc 133 then (bif Nat.blt pc 123 then (bif Nat.blt pc 116 then (bif Nat.blt pc 114 then (bif Nat.beq pc 111 then some (.getfield 23, 3, 10, 1, 905, .null) else none) else
       (bif Nat.beq pc 114 then some (.iload 7, 2, 7, 0, 0, mj_u) else none)) else
      (bif Nat.blt pc 118 then (bif Nat.beq pc 116 then some (.iload 8, 2, 8, 0, 0, mj_u) else none) else
       (bif Nat.blt pc 120 then (bif Nat.beq pc 118 then some (.iload 9, 2, 9, 0, 0, mj_u) else none) else
        (bif Nat.beq pc 120 then some (.invokevirtual 92, 3, 132, 0, 1003, mj_u) else none)))) else
     (bif Nat.blt pc 127 then (bif Nat.blt pc 125 then (bif Nat.beq pc 123 then some (.istore 10, 2, 10, 0, 0, mj_u) else none) else
       (bif Nat.beq pc 125 then some (.aload 6, 2, 6, 0, 0, mj_u) else none)) else
      (bif Nat.blt pc 129 then (bif Nat.beq pc 127 then some (.iload 10, 2, 10, 0, 0, mj_u) else none) else
       (bif Nat.blt pc 131 then (bif Nat.beq pc 129 then some (.aload 6, 2, 6, 0, 0, mj_u) else none) else
        (bif Nat.beq pc 131 then some (.iload 10, 2, 10, 0, 0, mj_u) else none))))) else
    (bif Nat.blt pc 143 then (bif Nat.blt pc 136 then (bif Nat.blt pc 134 then (bif Nat.beq pc 133 then some (.iaload, 1, 0, 0, 0, mj_u) else none) else
       (bif Nat.beq pc 134 then some (.iload 5, 2, 5, 0, 0, mj_u) else none)) else
      (bif Nat.blt pc 139 then (bif Nat.beq pc 136 then some (.invokestatic 3, 3, 59, 0, 971, mj_u) else none) else
       (bif Nat.blt pc 140 then (bif Nat.beq pc 139 then some (.iastore, 1, 0, 0, 0, mj_u) else none) else
        (bif Nat.beq pc 140 then some (.iinc 9 1, 3, 9, 0, 0, .int 1) else none)))) else
     (bif Nat.blt pc 147 then (bif Nat.blt pc 146 then (bif Nat.beq pc 143 then some (.goto (-49), 3, 94, 0, 0, mj_u) else none) else
       (bif Nat.beq pc 146 then some (.aload_n 0, 1, 0, 0, 0, mj_u) else none)) else
      (bif Nat.blt pc 149 then (bif Nat.beq pc 147 then some (.aload 6, 2, 6, 0, 0, mj_u) else none) else
       (bif Nat.blt pc 152 then (bif Nat.beq pc 149 then some (.invokevirtual 82, 3, 125, 0, 973, mj_u) else none) else
        (bif Nat.beq pc 152 then some (.ireturn, 1, 0, 0, 0, mj_u) else none)))))))
def m_M_dig : mj_M := (130, prog_11_method_16_code, 11, (Option.some Jvm.ClassFile.FieldType.int), 10, 5, 997, 995, 996, 55, 153, k_M_dig)
/-- WatershedMapModel$Land.far(II)I -/
def k_ML_far : Nat → Option mj_I := fun pc =>
  bif Nat.blt pc 17 then (bif Nat.blt pc 7 then (bif Nat.blt pc 2 then (bif Nat.blt pc 1 then (bif Nat.beq pc 0 then some (.iload_n 2, 1, 2, 0, 0, mj_u) else none) else
     (bif Nat.beq pc 1 then some (.aload_n 0, 1, 0, 0, 0, mj_u) else none)) else
    (bif Nat.blt pc 5 then (bif Nat.beq pc 2 then some (.getfield 9, 3, 9, 0, 891, .int 0) else none) else
     (bif Nat.blt pc 6 then (bif Nat.beq pc 5 then some (.irem, 1, 0, 0, 0, mj_u) else none) else
      (bif Nat.beq pc 6 then some (.iload_n 1, 1, 1, 0, 0, mj_u) else none)))) else
   (bif Nat.blt pc 12 then (bif Nat.blt pc 8 then (bif Nat.beq pc 7 then some (.aload_n 0, 1, 0, 0, 0, mj_u) else none) else
     (bif Nat.blt pc 11 then (bif Nat.beq pc 8 then some (.getfield 9, 3, 9, 0, 891, .int 0) else none) else
      (bif Nat.beq pc 11 then some (.irem, 1, 0, 0, 0, mj_u) else none))) else
    (bif Nat.blt pc 13 then (bif Nat.beq pc 12 then some (.isub, 1, 0, 0, 0, mj_u) else none) else
     (bif Nat.blt pc 16 then (bif Nat.beq pc 13 then some (.invokestatic 105, 3, 54, 0, 1002, mj_u) else none) else
      (bif Nat.beq pc 16 then some (.iload_n 2, 1, 2, 0, 0, mj_u) else none))))) else
  (bif Nat.blt pc 24 then (bif Nat.blt pc 21 then (bif Nat.blt pc 18 then (bif Nat.beq pc 17 then some (.aload_n 0, 1, 0, 0, 0, mj_u) else none) else
     (bif Nat.beq pc 18 then some (.getfield 9, 3, 9, 0, 891, .int 0) else none)) else
    (bif Nat.blt pc 22 then (bif Nat.beq pc 21 then some (.idiv, 1, 0, 0, 0, mj_u) else none) else
     (bif Nat.blt pc 23 then (bif Nat.beq pc 22 then some (.iload_n 1, 1, 1, 0, 0, mj_u) else none) else
      (bif Nat.beq pc 23 then some (.aload_n 0, 1, 0, 0, 0, mj_u) else none)))) else
   (bif Nat.blt pc 29 then (bif Nat.blt pc 27 then (bif Nat.beq pc 24 then some (.getfield 9, 3, 9, 0, 891, .int 0) else none) else
     (bif Nat.blt pc 28 then (bif Nat.beq pc 27 then some (.idiv, 1, 0, 0, 0, mj_u) else none) else
      (bif Nat.beq pc 28 then some (.isub, 1, 0, 0, 0, mj_u) else none))) else
    (bif Nat.blt pc 32 then (bif Nat.beq pc 29 then some (.invokestatic 105, 3, 54, 0, 1002, mj_u) else none) else
     (bif Nat.blt pc 35 then (bif Nat.beq pc 32 then some (.invokestatic 42, 3, 26, 0, 989, mj_u) else none) else
      (bif Nat.beq pc 35 then some (.ireturn, 1, 0, 0, 0, mj_u) else none)))))
def m_ML_far : mj_M := (131, prog_12_method_25_code, 3, (Option.some Jvm.ClassFile.FieldType.int), 9, 2, 1001, 999, 1000, 56, 36, k_ML_far)
/-- WatershedMapModel$Land.between(III)I -/
def k_ML_between : Nat → Option mj_I := fun pc =>
  bif Nat.blt pc 57 then (bif Nat.blt pc 23 then (bif Nat.blt pc 12 then (bif Nat.blt pc 6 then (bif Nat.blt pc 2 then (bif Nat.blt pc 1 then (bif Nat.beq pc 0 then some (.iload_n 2, 1, 2, 0, 0, mj_u) else none) else
       (bif Nat.beq pc 1 then some (.aload_n 0, 1, 0, 0, 0, mj_u) else none)) else
      (bif Nat.blt pc 5 then (bif Nat.beq pc 2 then some (.getfield 9, 3, 9, 0, 891, .int 0) else none) else
       (bif Nat.beq pc 5 then some (.irem, 1, 0, 0, 0, mj_u) else none))) else
     (bif Nat.blt pc 8 then (bif Nat.blt pc 7 then (bif Nat.beq pc 6 then some (.iload_n 1, 1, 1, 0, 0, mj_u) else none) else
       (bif Nat.beq pc 7 then some (.aload_n 0, 1, 0, 0, 0, mj_u) else none)) else
      (bif Nat.blt pc 11 then (bif Nat.beq pc 8 then some (.getfield 9, 3, 9, 0, 891, .int 0) else none) else
       (bif Nat.beq pc 11 then some (.irem, 1, 0, 0, 0, mj_u) else none)))) else
    (bif Nat.blt pc 17 then (bif Nat.blt pc 15 then (bif Nat.blt pc 13 then (bif Nat.beq pc 12 then some (.isub, 1, 0, 0, 0, mj_u) else none) else
       (bif Nat.beq pc 13 then some (.istore 4, 2, 4, 0, 0, mj_u) else none)) else
      (bif Nat.blt pc 16 then (bif Nat.beq pc 15 then some (.iload_n 2, 1, 2, 0, 0, mj_u) else none) else
       (bif Nat.beq pc 16 then some (.aload_n 0, 1, 0, 0, 0, mj_u) else none))) else
     (bif Nat.blt pc 21 then (bif Nat.blt pc 20 then (bif Nat.beq pc 17 then some (.getfield 9, 3, 9, 0, 891, .int 0) else none) else
       (bif Nat.beq pc 20 then some (.idiv, 1, 0, 0, 0, mj_u) else none)) else
      (bif Nat.blt pc 22 then (bif Nat.beq pc 21 then some (.iload_n 1, 1, 1, 0, 0, mj_u) else none) else
       (bif Nat.beq pc 22 then some (.aload_n 0, 1, 0, 0, 0, mj_u) else none))))) else
   (bif Nat.blt pc 40 then (bif Nat.blt pc 30 then (bif Nat.blt pc 27 then (bif Nat.blt pc 26 then (bif Nat.beq pc 23 then some (.getfield 9, 3, 9, 0, 891, .int 0) else none) else
       (bif Nat.beq pc 26 then some (.idiv, 1, 0, 0, 0, mj_u) else none)) else
      (bif Nat.blt pc 28 then (bif Nat.beq pc 27 then some (.isub, 1, 0, 0, 0, mj_u) else none) else
       (bif Nat.beq pc 28 then some (.istore 5, 2, 5, 0, 0, mj_u) else none))) else
     (bif Nat.blt pc 35 then (bif Nat.blt pc 32 then (bif Nat.beq pc 30 then some (.iload 4, 2, 4, 0, 0, mj_u) else none) else
       (bif Nat.beq pc 32 then some (.invokestatic 105, 3, 54, 0, 1002, mj_u) else none)) else
      (bif Nat.blt pc 37 then (bif Nat.beq pc 35 then some (.iload 5, 2, 5, 0, 0, mj_u) else none) else
       (bif Nat.beq pc 37 then some (.invokestatic 105, 3, 54, 0, 1002, mj_u) else none)))) else
    (bif Nat.blt pc 50 then (bif Nat.blt pc 45 then (bif Nat.blt pc 43 then (bif Nat.beq pc 40 then some (.invokestatic 42, 3, 26, 0, 989, mj_u) else none) else
       (bif Nat.beq pc 43 then some (.istore 6, 2, 6, 0, 0, mj_u) else none)) else
      (bif Nat.blt pc 47 then (bif Nat.beq pc 45 then some (.iload 6, 2, 6, 0, 0, mj_u) else none) else
       (bif Nat.beq pc 47 then some (.ifCond .ne 5, 3, 52, 0, 0, mj_u) else none))) else
     (bif Nat.blt pc 52 then (bif Nat.blt pc 51 then (bif Nat.beq pc 50 then some (.iload_n 1, 1, 1, 0, 0, mj_u) else none) else
       (bif Nat.beq pc 51 then some (.ireturn, 1, 0, 0, 0, mj_u) else none)) else
      (bif Nat.blt pc 53 then (bif Nat.beq pc 52 then some (.iload_n 1, 1, 1, 0, 0, mj_u) else none) else
       (bif Nat.blt pc 54 then (bif Nat.beq pc 53 then some (.aload_n 0, 1, 0, 0, 0, mj_u) else none) else
        (bif Nat.beq pc 54 then some (.getfield 9, 3, 9, 0, 891, .int 0) else none))))))) else
  (bif Nat.blt pc 81 then (bif Nat.blt pc 67 then (bif Nat.blt pc 61 then (bif Nat.blt pc 59 then (bif Nat.blt pc 58 then (bif Nat.beq pc 57 then some (.idiv, 1, 0, 0, 0, mj_u) else none) else
       (bif Nat.beq pc 58 then some (.iconst 2, 1, 0, 0, 0, .int 2) else none)) else
      (bif Nat.blt pc 60 then (bif Nat.beq pc 59 then some (.iload_n 3, 1, 3, 0, 0, mj_u) else none) else
       (bif Nat.beq pc 60 then some (.imul, 1, 0, 0, 0, mj_u) else none))) else
     (bif Nat.blt pc 64 then (bif Nat.blt pc 63 then (bif Nat.beq pc 61 then some (.iload 5, 2, 5, 0, 0, mj_u) else none) else
       (bif Nat.beq pc 63 then some (.imul, 1, 0, 0, 0, mj_u) else none)) else
      (bif Nat.blt pc 66 then (bif Nat.beq pc 64 then some (.iload 6, 2, 6, 0, 0, mj_u) else none) else
       (bif Nat.beq pc 66 then some (.iadd, 1, 0, 0, 0, mj_u) else none)))) else
    (bif Nat.blt pc 74 then (bif Nat.blt pc 70 then (bif Nat.blt pc 68 then (bif Nat.beq pc 67 then some (.iconst 2, 1, 0, 0, 0, .int 2) else none) else
       (bif Nat.beq pc 68 then some (.iload 6, 2, 6, 0, 0, mj_u) else none)) else
      (bif Nat.blt pc 71 then (bif Nat.beq pc 70 then some (.imul, 1, 0, 0, 0, mj_u) else none) else
       (bif Nat.beq pc 71 then some (.invokestatic 108, 3, 84, 0, 1007, mj_u) else none))) else
     (bif Nat.blt pc 76 then (bif Nat.blt pc 75 then (bif Nat.beq pc 74 then some (.iadd, 1, 0, 0, 0, mj_u) else none) else
       (bif Nat.beq pc 75 then some (.aload_n 0, 1, 0, 0, 0, mj_u) else none)) else
      (bif Nat.blt pc 79 then (bif Nat.beq pc 76 then some (.getfield 9, 3, 9, 0, 891, .int 0) else none) else
       (bif Nat.blt pc 80 then (bif Nat.beq pc 79 then some (.imul, 1, 0, 0, 0, mj_u) else none) else
        (bif Nat.beq pc 80 then some (.iload_n 1, 1, 1, 0, 0, mj_u) else none)))))) else
   (bif Nat.blt pc 92 then (bif Nat.blt pc 87 then (bif Nat.blt pc 85 then (bif Nat.blt pc 82 then (bif Nat.beq pc 81 then some (.aload_n 0, 1, 0, 0, 0, mj_u) else none) else
       (bif Nat.beq pc 82 then some (.getfield 9, 3, 9, 0, 891, .int 0) else none)) else
      (bif Nat.blt pc 86 then (bif Nat.beq pc 85 then some (.irem, 1, 0, 0, 0, mj_u) else none) else
       (bif Nat.beq pc 86 then some (.iadd, 1, 0, 0, 0, mj_u) else none))) else
     (bif Nat.blt pc 89 then (bif Nat.blt pc 88 then (bif Nat.beq pc 87 then some (.iconst 2, 1, 0, 0, 0, .int 2) else none) else
       (bif Nat.beq pc 88 then some (.iload_n 3, 1, 3, 0, 0, mj_u) else none)) else
      (bif Nat.blt pc 90 then (bif Nat.beq pc 89 then some (.imul, 1, 0, 0, 0, mj_u) else none) else
       (bif Nat.beq pc 90 then some (.iload 4, 2, 4, 0, 0, mj_u) else none)))) else
    (bif Nat.blt pc 97 then (bif Nat.blt pc 95 then (bif Nat.blt pc 93 then (bif Nat.beq pc 92 then some (.imul, 1, 0, 0, 0, mj_u) else none) else
       (bif Nat.beq pc 93 then some (.iload 6, 2, 6, 0, 0, mj_u) else none)) else
      (bif Nat.blt pc 96 then (bif Nat.beq pc 95 then some (.iadd, 1, 0, 0, 0, mj_u) else none) else
       (bif Nat.beq pc 96 then some (.iconst 2, 1, 0, 0, 0, .int 2) else none))) else
     (bif Nat.blt pc 100 then (bif Nat.blt pc 99 then (bif Nat.beq pc 97 then some (.iload 6, 2, 6, 0, 0, mj_u) else none) else
       (bif Nat.beq pc 99 then some (.imul, 1, 0, 0, 0, mj_u) else none)) else
      (bif Nat.blt pc 103 then (bif Nat.beq pc 100 then some (.invokestatic 108, 3, 84, 0, 1007, mj_u) else none) else
       (bif Nat.blt pc 104 then (bif Nat.beq pc 103 then some (.iadd, 1, 0, 0, 0, mj_u) else none) else
        (bif Nat.beq pc 104 then some (.ireturn, 1, 0, 0, 0, mj_u) else none)))))))
def m_ML_between : mj_M := (132, prog_12_method_24_code, 7, (Option.some Jvm.ClassFile.FieldType.int), 9, 3, 1006, 1004, 1005, 56, 105, k_ML_between)
/-- WatershedMapModel.smooth()I -/
def k_M_smooth : Nat → Option mj_I := fun pc =>
  bif Nat.blt pc 50 then (bif Nat.blt pc 24 then (bif Nat.blt pc 14 then (bif Nat.blt pc 5 then (bif Nat.blt pc 1 then (bif Nat.beq pc 0 then some (.aload_n 0, 1, 0, 0, 0, mj_u) else none) else
      (bif Nat.blt pc 2 then (bif Nat.beq pc 1 then some (.iconst 0, 1, 0, 0, 0, .int 0) else none) else
       (bif Nat.beq pc 2 then some (.putfield 31, 3, 10, 0, 904, .int 0) else none))) else
     (bif Nat.blt pc 9 then (bif Nat.blt pc 6 then (bif Nat.beq pc 5 then some (.aload_n 0, 1, 0, 0, 0, mj_u) else none) else
       (bif Nat.beq pc 6 then some (.getfield 23, 3, 10, 1, 905, .null) else none)) else
      (bif Nat.blt pc 12 then (bif Nat.beq pc 9 then some (.invokevirtual 96, 3, 127, 0, 1012, mj_u) else none) else
       (bif Nat.beq pc 12 then some (.newarray .int, 2, 0, 0, 0, mj_u) else none)))) else
    (bif Nat.blt pc 18 then (bif Nat.blt pc 16 then (bif Nat.blt pc 15 then (bif Nat.beq pc 14 then some (.astore_n 1, 1, 1, 0, 0, mj_u) else none) else
       (bif Nat.beq pc 15 then some (.iconst 0, 1, 0, 0, 0, .int 0) else none)) else
      (bif Nat.blt pc 17 then (bif Nat.beq pc 16 then some (.istore_n 2, 1, 2, 0, 0, mj_u) else none) else
       (bif Nat.beq pc 17 then some (.iload_n 2, 1, 2, 0, 0, mj_u) else none))) else
     (bif Nat.blt pc 20 then (bif Nat.blt pc 19 then (bif Nat.beq pc 18 then some (.aload_n 1, 1, 1, 0, 0, mj_u) else none) else
       (bif Nat.beq pc 19 then some (.arraylength, 1, 0, 0, 0, mj_u) else none)) else
      (bif Nat.blt pc 23 then (bif Nat.beq pc 20 then some (.if_icmp .ge 82, 3, 102, 0, 0, mj_u) else none) else
       (bif Nat.beq pc 23 then some (.iconst 4, 1, 0, 0, 0, .int 4) else none))))) else
   (bif Nat.blt pc 35 then (bif Nat.blt pc 31 then (bif Nat.blt pc 25 then (bif Nat.beq pc 24 then some (.aload_n 0, 1, 0, 0, 0, mj_u) else none) else
      (bif Nat.blt pc 28 then (bif Nat.beq pc 25 then some (.getfield 23, 3, 10, 1, 905, .null) else none) else
       (bif Nat.beq pc 28 then some (.getfield 55, 3, 9, 2, 896, .null) else none))) else
     (bif Nat.blt pc 33 then (bif Nat.blt pc 32 then (bif Nat.beq pc 31 then some (.iload_n 2, 1, 2, 0, 0, mj_u) else none) else
       (bif Nat.beq pc 32 then some (.iaload, 1, 0, 0, 0, mj_u) else none)) else
      (bif Nat.blt pc 34 then (bif Nat.beq pc 33 then some (.imul, 1, 0, 0, 0, mj_u) else none) else
       (bif Nat.beq pc 34 then some (.istore_n 3, 1, 3, 0, 0, mj_u) else none)))) else
    (bif Nat.blt pc 42 then (bif Nat.blt pc 38 then (bif Nat.blt pc 36 then (bif Nat.beq pc 35 then some (.iconst 0, 1, 0, 0, 0, .int 0) else none) else
       (bif Nat.beq pc 36 then some (.istore 4, 2, 4, 0, 0, mj_u) else none)) else
      (bif Nat.blt pc 40 then (bif Nat.beq pc 38 then some (.iload 4, 2, 4, 0, 0, mj_u) else none) else
       (bif Nat.beq pc 40 then some (.bipush 8, 2, 0, 0, 0, .int 8) else none))) else
     (bif Nat.blt pc 46 then (bif Nat.blt pc 45 then (bif Nat.beq pc 42 then some (.if_icmp .ge 47, 3, 89, 0, 0, mj_u) else none) else
       (bif Nat.beq pc 45 then some (.iload_n 3, 1, 3, 0, 0, mj_u) else none)) else
      (bif Nat.blt pc 47 then (bif Nat.beq pc 46 then some (.aload_n 0, 1, 0, 0, 0, mj_u) else none) else
       (bif Nat.beq pc 47 then some (.getfield 23, 3, 10, 1, 905, .null) else none)))))) else
  (bif Nat.blt pc 81 then (bif Nat.blt pc 66 then (bif Nat.blt pc 57 then (bif Nat.blt pc 53 then (bif Nat.beq pc 50 then some (.getfield 55, 3, 9, 2, 896, .null) else none) else
      (bif Nat.blt pc 54 then (bif Nat.beq pc 53 then some (.aload_n 0, 1, 0, 0, 0, mj_u) else none) else
       (bif Nat.beq pc 54 then some (.getfield 23, 3, 10, 1, 905, .null) else none))) else
     (bif Nat.blt pc 60 then (bif Nat.blt pc 58 then (bif Nat.beq pc 57 then some (.iload_n 2, 1, 2, 0, 0, mj_u) else none) else
       (bif Nat.beq pc 58 then some (.iload 4, 2, 4, 0, 0, mj_u) else none)) else
      (bif Nat.blt pc 63 then (bif Nat.beq pc 60 then some (.invokevirtual 99, 3, 134, 0, 1013, mj_u) else none) else
       (bif Nat.beq pc 63 then some (.ifCond .ge 7, 3, 70, 0, 0, mj_u) else none)))) else
    (bif Nat.blt pc 74 then (bif Nat.blt pc 70 then (bif Nat.blt pc 67 then (bif Nat.beq pc 66 then some (.iload_n 2, 1, 2, 0, 0, mj_u) else none) else
       (bif Nat.beq pc 67 then some (.goto 13, 3, 80, 0, 0, mj_u) else none)) else
      (bif Nat.blt pc 71 then (bif Nat.beq pc 70 then some (.aload_n 0, 1, 0, 0, 0, mj_u) else none) else
       (bif Nat.beq pc 71 then some (.getfield 23, 3, 10, 1, 905, .null) else none))) else
     (bif Nat.blt pc 77 then (bif Nat.blt pc 75 then (bif Nat.beq pc 74 then some (.iload_n 2, 1, 2, 0, 0, mj_u) else none) else
       (bif Nat.beq pc 75 then some (.iload 4, 2, 4, 0, 0, mj_u) else none)) else
      (bif Nat.blt pc 80 then (bif Nat.beq pc 77 then some (.invokevirtual 99, 3, 134, 0, 1013, mj_u) else none) else
       (bif Nat.beq pc 80 then some (.iaload, 1, 0, 0, 0, mj_u) else none))))) else
   (bif Nat.blt pc 94 then (bif Nat.blt pc 89 then (bif Nat.blt pc 83 then (bif Nat.blt pc 82 then (bif Nat.beq pc 81 then some (.iadd, 1, 0, 0, 0, mj_u) else none) else
       (bif Nat.beq pc 82 then some (.istore_n 3, 1, 3, 0, 0, mj_u) else none)) else
      (bif Nat.blt pc 86 then (bif Nat.beq pc 83 then some (.iinc 4 2, 3, 4, 0, 0, .int 2) else none) else
       (bif Nat.beq pc 86 then some (.goto (-48), 3, 38, 0, 0, mj_u) else none))) else
     (bif Nat.blt pc 91 then (bif Nat.blt pc 90 then (bif Nat.beq pc 89 then some (.aload_n 1, 1, 1, 0, 0, mj_u) else none) else
       (bif Nat.beq pc 90 then some (.iload_n 2, 1, 2, 0, 0, mj_u) else none)) else
      (bif Nat.blt pc 92 then (bif Nat.beq pc 91 then some (.iload_n 3, 1, 3, 0, 0, mj_u) else none) else
       (bif Nat.beq pc 92 then some (.bipush 8, 2, 0, 0, 0, .int 8) else none)))) else
    (bif Nat.blt pc 102 then (bif Nat.blt pc 96 then (bif Nat.blt pc 95 then (bif Nat.beq pc 94 then some (.idiv, 1, 0, 0, 0, mj_u) else none) else
       (bif Nat.beq pc 95 then some (.iastore, 1, 0, 0, 0, mj_u) else none)) else
      (bif Nat.blt pc 99 then (bif Nat.beq pc 96 then some (.iinc 2 1, 3, 2, 0, 0, .int 1) else none) else
       (bif Nat.beq pc 99 then some (.goto (-82), 3, 17, 0, 0, mj_u) else none))) else
     (bif Nat.blt pc 104 then (bif Nat.blt pc 103 then (bif Nat.beq pc 102 then some (.aload_n 0, 1, 0, 0, 0, mj_u) else none) else
       (bif Nat.beq pc 103 then some (.aload_n 1, 1, 1, 0, 0, mj_u) else none)) else
      (bif Nat.blt pc 107 then (bif Nat.beq pc 104 then some (.invokevirtual 82, 3, 125, 0, 973, mj_u) else none) else
       (bif Nat.beq pc 107 then some (.ireturn, 1, 0, 0, 0, mj_u) else none))))))
def m_M_smooth : mj_M := (133, prog_11_method_17_code, 5, (Option.some Jvm.ClassFile.FieldType.int), 10, 0, 1011, 1009, 1010, 55, 108, k_M_smooth)
/-- WatershedMapModel$Land.next(II)I -/
def k_ML_next : Nat → Option mj_I := fun pc =>
  bif Nat.blt pc 28 then (bif Nat.blt pc 13 then (bif Nat.blt pc 6 then (bif Nat.blt pc 2 then (bif Nat.blt pc 1 then (bif Nat.beq pc 0 then some (.iload_n 1, 1, 1, 0, 0, mj_u) else none) else
      (bif Nat.beq pc 1 then some (.aload_n 0, 1, 0, 0, 0, mj_u) else none)) else
     (bif Nat.blt pc 5 then (bif Nat.beq pc 2 then some (.getfield 9, 3, 9, 0, 891, .int 0) else none) else
      (bif Nat.beq pc 5 then some (.irem, 1, 0, 0, 0, mj_u) else none))) else
    (bif Nat.blt pc 10 then (bif Nat.blt pc 9 then (bif Nat.beq pc 6 then some (.getstatic 22, 3, 3, 1, 1017, mj_u) else none) else
      (bif Nat.beq pc 9 then some (.iload_n 2, 1, 2, 0, 0, mj_u) else none)) else
     (bif Nat.blt pc 11 then (bif Nat.beq pc 10 then some (.iaload, 1, 0, 0, 0, mj_u) else none) else
      (bif Nat.blt pc 12 then (bif Nat.beq pc 11 then some (.iadd, 1, 0, 0, 0, mj_u) else none) else
       (bif Nat.beq pc 12 then some (.istore_n 3, 1, 3, 0, 0, mj_u) else none))))) else
   (bif Nat.blt pc 22 then (bif Nat.blt pc 15 then (bif Nat.blt pc 14 then (bif Nat.beq pc 13 then some (.iload_n 1, 1, 1, 0, 0, mj_u) else none) else
      (bif Nat.beq pc 14 then some (.aload_n 0, 1, 0, 0, 0, mj_u) else none)) else
     (bif Nat.blt pc 18 then (bif Nat.beq pc 15 then some (.getfield 9, 3, 9, 0, 891, .int 0) else none) else
      (bif Nat.blt pc 19 then (bif Nat.beq pc 18 then some (.idiv, 1, 0, 0, 0, mj_u) else none) else
       (bif Nat.beq pc 19 then some (.getstatic 25, 3, 4, 1, 1019, mj_u) else none)))) else
    (bif Nat.blt pc 24 then (bif Nat.blt pc 23 then (bif Nat.beq pc 22 then some (.iload_n 2, 1, 2, 0, 0, mj_u) else none) else
      (bif Nat.beq pc 23 then some (.iaload, 1, 0, 0, 0, mj_u) else none)) else
     (bif Nat.blt pc 25 then (bif Nat.beq pc 24 then some (.iadd, 1, 0, 0, 0, mj_u) else none) else
      (bif Nat.blt pc 27 then (bif Nat.beq pc 25 then some (.istore 4, 2, 4, 0, 0, mj_u) else none) else
       (bif Nat.beq pc 27 then some (.iload_n 3, 1, 3, 0, 0, mj_u) else none)))))) else
  (bif Nat.blt pc 50 then (bif Nat.blt pc 39 then (bif Nat.blt pc 32 then (bif Nat.blt pc 31 then (bif Nat.beq pc 28 then some (.ifCond .lt 25, 3, 53, 0, 0, mj_u) else none) else
      (bif Nat.beq pc 31 then some (.iload_n 3, 1, 3, 0, 0, mj_u) else none)) else
     (bif Nat.blt pc 33 then (bif Nat.beq pc 32 then some (.aload_n 0, 1, 0, 0, 0, mj_u) else none) else
      (bif Nat.blt pc 36 then (bif Nat.beq pc 33 then some (.getfield 9, 3, 9, 0, 891, .int 0) else none) else
       (bif Nat.beq pc 36 then some (.if_icmp .ge 17, 3, 53, 0, 0, mj_u) else none)))) else
    (bif Nat.blt pc 44 then (bif Nat.blt pc 41 then (bif Nat.beq pc 39 then some (.iload 4, 2, 4, 0, 0, mj_u) else none) else
      (bif Nat.beq pc 41 then some (.ifCond .lt 12, 3, 53, 0, 0, mj_u) else none)) else
     (bif Nat.blt pc 46 then (bif Nat.beq pc 44 then some (.iload 4, 2, 4, 0, 0, mj_u) else none) else
      (bif Nat.blt pc 47 then (bif Nat.beq pc 46 then some (.aload_n 0, 1, 0, 0, 0, mj_u) else none) else
       (bif Nat.beq pc 47 then some (.getfield 15, 3, 9, 1, 893, .int 0) else none))))) else
   (bif Nat.blt pc 60 then (bif Nat.blt pc 54 then (bif Nat.blt pc 53 then (bif Nat.beq pc 50 then some (.if_icmp .lt 7, 3, 57, 0, 0, mj_u) else none) else
      (bif Nat.beq pc 53 then some (.iconst (-1), 1, 0, 0, 0, .int (-1)) else none)) else
     (bif Nat.blt pc 57 then (bif Nat.beq pc 54 then some (.goto 12, 3, 66, 0, 0, mj_u) else none) else
      (bif Nat.blt pc 59 then (bif Nat.beq pc 57 then some (.iload 4, 2, 4, 0, 0, mj_u) else none) else
       (bif Nat.beq pc 59 then some (.aload_n 0, 1, 0, 0, 0, mj_u) else none)))) else
    (bif Nat.blt pc 64 then (bif Nat.blt pc 63 then (bif Nat.beq pc 60 then some (.getfield 9, 3, 9, 0, 891, .int 0) else none) else
      (bif Nat.beq pc 63 then some (.imul, 1, 0, 0, 0, mj_u) else none)) else
     (bif Nat.blt pc 65 then (bif Nat.beq pc 64 then some (.iload_n 3, 1, 3, 0, 0, mj_u) else none) else
      (bif Nat.blt pc 66 then (bif Nat.beq pc 65 then some (.iadd, 1, 0, 0, 0, mj_u) else none) else
       (bif Nat.beq pc 66 then some (.ireturn, 1, 0, 0, 0, mj_u) else none))))))
def m_ML_next : mj_M := (134, prog_12_method_3_code, 5, (Option.some Jvm.ClassFile.FieldType.int), 9, 2, 1016, 1014, 1015, 56, 67, k_ML_next)
/-- WatershedMapModel.wear(I)I -/
def k_M_wear : Nat → Option mj_I := fun pc =>
  bif Nat.blt pc 81 then (bif Nat.blt pc 38 then (bif Nat.blt pc 17 then (bif Nat.blt pc 8 then (bif Nat.blt pc 2 then (bif Nat.blt pc 1 then (bif Nat.beq pc 0 then some (.aload_n 0, 1, 0, 0, 0, mj_u) else none) else
       (bif Nat.beq pc 1 then some (.iload_n 1, 1, 1, 0, 0, mj_u) else none)) else
      (bif Nat.blt pc 3 then (bif Nat.beq pc 2 then some (.iconst 1, 1, 0, 0, 0, .int 1) else none) else
       (bif Nat.blt pc 5 then (bif Nat.beq pc 3 then some (.bipush 50, 2, 0, 0, 0, .int 50) else none) else
        (bif Nat.beq pc 5 then some (.invokestatic 41, 3, 115, 0, 922, mj_u) else none)))) else
     (bif Nat.blt pc 12 then (bif Nat.blt pc 11 then (bif Nat.beq pc 8 then some (.ifCond .ne 7, 3, 15, 0, 0, mj_u) else none) else
       (bif Nat.beq pc 11 then some (.iconst 1, 1, 0, 0, 0, .int 1) else none)) else
      (bif Nat.blt pc 15 then (bif Nat.beq pc 12 then some (.goto 4, 3, 16, 0, 0, mj_u) else none) else
       (bif Nat.blt pc 16 then (bif Nat.beq pc 15 then some (.iconst 0, 1, 0, 0, 0, .int 0) else none) else
        (bif Nat.beq pc 16 then some (.iconst 1, 1, 0, 0, 0, .int 1) else none))))) else
    (bif Nat.blt pc 26 then (bif Nat.blt pc 23 then (bif Nat.blt pc 20 then (bif Nat.beq pc 17 then some (.invokevirtual 52, 3, 116, 0, 925, mj_u) else none) else
       (bif Nat.beq pc 20 then some (.ifCond .eq 5, 3, 25, 0, 0, mj_u) else none)) else
      (bif Nat.blt pc 24 then (bif Nat.beq pc 23 then some (.iconst 0, 1, 0, 0, 0, .int 0) else none) else
       (bif Nat.blt pc 25 then (bif Nat.beq pc 24 then some (.ireturn, 1, 0, 0, 0, mj_u) else none) else
        (bif Nat.beq pc 25 then some (.aload_n 0, 1, 0, 0, 0, mj_u) else none)))) else
     (bif Nat.blt pc 33 then (bif Nat.blt pc 29 then (bif Nat.beq pc 26 then some (.getfield 23, 3, 10, 1, 905, .null) else none) else
       (bif Nat.blt pc 32 then (bif Nat.beq pc 29 then some (.invokevirtual 102, 3, 136, 0, 1025, mj_u) else none) else
        (bif Nat.beq pc 32 then some (.astore_n 2, 1, 2, 0, 0, mj_u) else none))) else
      (bif Nat.blt pc 34 then (bif Nat.beq pc 33 then some (.aload_n 0, 1, 0, 0, 0, mj_u) else none) else
       (bif Nat.blt pc 37 then (bif Nat.beq pc 34 then some (.getfield 23, 3, 10, 1, 905, .null) else none) else
        (bif Nat.beq pc 37 then some (.aload_n 2, 1, 2, 0, 0, mj_u) else none)))))) else
   (bif Nat.blt pc 60 then (bif Nat.blt pc 49 then (bif Nat.blt pc 42 then (bif Nat.blt pc 41 then (bif Nat.beq pc 38 then some (.invokevirtual 106, 3, 139, 0, 1038, mj_u) else none) else
       (bif Nat.beq pc 41 then some (.astore_n 3, 1, 3, 0, 0, mj_u) else none)) else
      (bif Nat.blt pc 43 then (bif Nat.beq pc 42 then some (.aload_n 0, 1, 0, 0, 0, mj_u) else none) else
       (bif Nat.blt pc 46 then (bif Nat.beq pc 43 then some (.getfield 23, 3, 10, 1, 905, .null) else none) else
        (bif Nat.beq pc 46 then some (.getfield 55, 3, 9, 2, 896, .null) else none)))) else
     (bif Nat.blt pc 55 then (bif Nat.blt pc 52 then (bif Nat.beq pc 49 then some (.invokevirtual 73, 3, 1002, 0, 966, mj_u) else none) else
       (bif Nat.beq pc 52 then some (.checkcast 74, 3, 0, 0, 0, mj_u) else none)) else
      (bif Nat.blt pc 57 then (bif Nat.beq pc 55 then some (.astore 4, 2, 4, 0, 0, mj_u) else none) else
       (bif Nat.blt pc 58 then (bif Nat.beq pc 57 then some (.iconst 0, 1, 0, 0, 0, .int 0) else none) else
        (bif Nat.beq pc 58 then some (.istore 5, 2, 5, 0, 0, mj_u) else none))))) else
    (bif Nat.blt pc 68 then (bif Nat.blt pc 63 then (bif Nat.blt pc 61 then (bif Nat.beq pc 60 then some (.iconst 0, 1, 0, 0, 0, .int 0) else none) else
       (bif Nat.beq pc 61 then some (.istore 6, 2, 6, 0, 0, mj_u) else none)) else
      (bif Nat.blt pc 65 then (bif Nat.beq pc 63 then some (.iload 6, 2, 6, 0, 0, mj_u) else none) else
       (bif Nat.blt pc 67 then (bif Nat.beq pc 65 then some (.aload 4, 2, 4, 0, 0, mj_u) else none) else
        (bif Nat.beq pc 67 then some (.arraylength, 1, 0, 0, 0, mj_u) else none)))) else
     (bif Nat.blt pc 74 then (bif Nat.blt pc 71 then (bif Nat.beq pc 68 then some (.if_icmp .ge 75, 3, 143, 0, 0, mj_u) else none) else
       (bif Nat.blt pc 72 then (bif Nat.beq pc 71 then some (.aload_n 2, 1, 2, 0, 0, mj_u) else none) else
        (bif Nat.beq pc 72 then some (.iload 6, 2, 6, 0, 0, mj_u) else none))) else
      (bif Nat.blt pc 75 then (bif Nat.beq pc 74 then some (.iaload, 1, 0, 0, 0, mj_u) else none) else
       (bif Nat.blt pc 78 then (bif Nat.beq pc 75 then some (.ifCond .ge 6, 3, 81, 0, 0, mj_u) else none) else
        (bif Nat.beq pc 78 then some (.goto 59, 3, 137, 0, 0, mj_u) else none))))))) else
  (bif Nat.blt pc 114 then (bif Nat.blt pc 97 then (bif Nat.blt pc 87 then (bif Nat.blt pc 83 then (bif Nat.blt pc 82 then (bif Nat.beq pc 81 then some (.iload_n 1, 1, 1, 0, 0, mj_u) else none) else
       (bif Nat.beq pc 82 then some (.aload_n 3, 1, 3, 0, 0, mj_u) else none)) else
      (bif Nat.blt pc 85 then (bif Nat.beq pc 83 then some (.iload 6, 2, 6, 0, 0, mj_u) else none) else
       (bif Nat.blt pc 86 then (bif Nat.beq pc 85 then some (.iaload, 1, 0, 0, 0, mj_u) else none) else
        (bif Nat.beq pc 86 then some (.imul, 1, 0, 0, 0, mj_u) else none)))) else
     (bif Nat.blt pc 90 then (bif Nat.blt pc 89 then (bif Nat.beq pc 87 then some (.bipush 10, 2, 0, 0, 0, .int 10) else none) else
       (bif Nat.beq pc 89 then some (.idiv, 1, 0, 0, 0, mj_u) else none)) else
      (bif Nat.blt pc 91 then (bif Nat.beq pc 90 then some (.aload_n 0, 1, 0, 0, 0, mj_u) else none) else
       (bif Nat.blt pc 94 then (bif Nat.beq pc 91 then some (.getfield 23, 3, 10, 1, 905, .null) else none) else
        (bif Nat.beq pc 94 then some (.getfield 55, 3, 9, 2, 896, .null) else none))))) else
    (bif Nat.blt pc 107 then (bif Nat.blt pc 100 then (bif Nat.blt pc 99 then (bif Nat.beq pc 97 then some (.iload 6, 2, 6, 0, 0, mj_u) else none) else
       (bif Nat.beq pc 99 then some (.iaload, 1, 0, 0, 0, mj_u) else none)) else
      (bif Nat.blt pc 101 then (bif Nat.beq pc 100 then some (.aload_n 0, 1, 0, 0, 0, mj_u) else none) else
       (bif Nat.blt pc 104 then (bif Nat.beq pc 101 then some (.getfield 23, 3, 10, 1, 905, .null) else none) else
        (bif Nat.beq pc 104 then some (.getfield 55, 3, 9, 2, 896, .null) else none)))) else
     (bif Nat.blt pc 111 then (bif Nat.blt pc 108 then (bif Nat.beq pc 107 then some (.aload_n 2, 1, 2, 0, 0, mj_u) else none) else
       (bif Nat.blt pc 110 then (bif Nat.beq pc 108 then some (.iload 6, 2, 6, 0, 0, mj_u) else none) else
        (bif Nat.beq pc 110 then some (.iaload, 1, 0, 0, 0, mj_u) else none))) else
      (bif Nat.blt pc 112 then (bif Nat.beq pc 111 then some (.iaload, 1, 0, 0, 0, mj_u) else none) else
       (bif Nat.blt pc 113 then (bif Nat.beq pc 112 then some (.isub, 1, 0, 0, 0, mj_u) else none) else
        (bif Nat.beq pc 113 then some (.iconst 2, 1, 0, 0, 0, .int 2) else none)))))) else
   (bif Nat.blt pc 132 then (bif Nat.blt pc 124 then (bif Nat.blt pc 118 then (bif Nat.blt pc 115 then (bif Nat.beq pc 114 then some (.idiv, 1, 0, 0, 0, mj_u) else none) else
       (bif Nat.beq pc 115 then some (.invokestatic 3, 3, 59, 0, 971, mj_u) else none)) else
      (bif Nat.blt pc 120 then (bif Nat.beq pc 118 then some (.istore 7, 2, 7, 0, 0, mj_u) else none) else
       (bif Nat.blt pc 122 then (bif Nat.beq pc 120 then some (.aload 4, 2, 4, 0, 0, mj_u) else none) else
        (bif Nat.beq pc 122 then some (.iload 6, 2, 6, 0, 0, mj_u) else none)))) else
     (bif Nat.blt pc 128 then (bif Nat.blt pc 125 then (bif Nat.beq pc 124 then some (.dup2, 1, 0, 0, 0, mj_u) else none) else
       (bif Nat.blt pc 126 then (bif Nat.beq pc 125 then some (.iaload, 1, 0, 0, 0, mj_u) else none) else
        (bif Nat.beq pc 126 then some (.iload 7, 2, 7, 0, 0, mj_u) else none))) else
      (bif Nat.blt pc 129 then (bif Nat.beq pc 128 then some (.isub, 1, 0, 0, 0, mj_u) else none) else
       (bif Nat.blt pc 130 then (bif Nat.beq pc 129 then some (.iastore, 1, 0, 0, 0, mj_u) else none) else
        (bif Nat.beq pc 130 then some (.iload 5, 2, 5, 0, 0, mj_u) else none))))) else
    (bif Nat.blt pc 143 then (bif Nat.blt pc 135 then (bif Nat.blt pc 134 then (bif Nat.beq pc 132 then some (.iload 7, 2, 7, 0, 0, mj_u) else none) else
       (bif Nat.beq pc 134 then some (.iadd, 1, 0, 0, 0, mj_u) else none)) else
      (bif Nat.blt pc 137 then (bif Nat.beq pc 135 then some (.istore 5, 2, 5, 0, 0, mj_u) else none) else
       (bif Nat.blt pc 140 then (bif Nat.beq pc 137 then some (.iinc 6 1, 3, 6, 0, 0, .int 1) else none) else
        (bif Nat.beq pc 140 then some (.goto (-77), 3, 63, 0, 0, mj_u) else none)))) else
     (bif Nat.blt pc 149 then (bif Nat.blt pc 144 then (bif Nat.beq pc 143 then some (.aload_n 0, 1, 0, 0, 0, mj_u) else none) else
       (bif Nat.blt pc 146 then (bif Nat.beq pc 144 then some (.aload 4, 2, 4, 0, 0, mj_u) else none) else
        (bif Nat.beq pc 146 then some (.invokevirtual 82, 3, 125, 0, 973, mj_u) else none))) else
      (bif Nat.blt pc 150 then (bif Nat.beq pc 149 then some (.pop, 1, 0, 0, 0, mj_u) else none) else
       (bif Nat.blt pc 152 then (bif Nat.beq pc 150 then some (.iload 5, 2, 5, 0, 0, mj_u) else none) else
        (bif Nat.beq pc 152 then some (.ireturn, 1, 0, 0, 0, mj_u) else none)))))))
def m_M_wear : mj_M := (135, prog_11_method_18_code, 8, (Option.some Jvm.ClassFile.FieldType.int), 10, 1, 1024, 1022, 1023, 55, 153, k_M_wear)
/-- WatershedMapModel$Land.to()[I -/
def k_ML_to : Nat → Option mj_I := fun pc =>
  bif Nat.blt pc 24 then (bif Nat.blt pc 10 then (bif Nat.blt pc 6 then (bif Nat.blt pc 1 then (bif Nat.beq pc 0 then some (.aload_n 0, 1, 0, 0, 0, mj_u) else none) else
     (bif Nat.blt pc 4 then (bif Nat.beq pc 1 then some (.invokevirtual 45, 3, 127, 0, 981, mj_u) else none) else
      (bif Nat.beq pc 4 then some (.newarray .int, 2, 0, 0, 0, mj_u) else none))) else
    (bif Nat.blt pc 8 then (bif Nat.blt pc 7 then (bif Nat.beq pc 6 then some (.astore_n 1, 1, 1, 0, 0, mj_u) else none) else
      (bif Nat.beq pc 7 then some (.iconst 0, 1, 0, 0, 0, .int 0) else none)) else
     (bif Nat.blt pc 9 then (bif Nat.beq pc 8 then some (.istore_n 2, 1, 2, 0, 0, mj_u) else none) else
      (bif Nat.beq pc 9 then some (.iload_n 2, 1, 2, 0, 0, mj_u) else none)))) else
   (bif Nat.blt pc 18 then (bif Nat.blt pc 14 then (bif Nat.blt pc 11 then (bif Nat.beq pc 10 then some (.aload_n 0, 1, 0, 0, 0, mj_u) else none) else
      (bif Nat.beq pc 11 then some (.invokevirtual 45, 3, 127, 0, 981, mj_u) else none)) else
     (bif Nat.blt pc 17 then (bif Nat.beq pc 14 then some (.if_icmp .ge 36, 3, 50, 0, 0, mj_u) else none) else
      (bif Nat.beq pc 17 then some (.aload_n 1, 1, 1, 0, 0, mj_u) else none))) else
    (bif Nat.blt pc 20 then (bif Nat.blt pc 19 then (bif Nat.beq pc 18 then some (.iload_n 2, 1, 2, 0, 0, mj_u) else none) else
      (bif Nat.beq pc 19 then some (.aload_n 0, 1, 0, 0, 0, mj_u) else none)) else
     (bif Nat.blt pc 21 then (bif Nat.beq pc 20 then some (.iload_n 2, 1, 2, 0, 0, mj_u) else none) else
      (bif Nat.beq pc 21 then some (.invokevirtual 56, 3, 137, 0, 1029, mj_u) else none))))) else
  (bif Nat.blt pc 36 then (bif Nat.blt pc 30 then (bif Nat.blt pc 26 then (bif Nat.beq pc 24 then some (.bipush 8, 2, 0, 0, 0, .int 8) else none) else
     (bif Nat.blt pc 29 then (bif Nat.beq pc 26 then some (.if_icmp .ge 16, 3, 42, 0, 0, mj_u) else none) else
      (bif Nat.beq pc 29 then some (.aload_n 0, 1, 0, 0, 0, mj_u) else none))) else
    (bif Nat.blt pc 32 then (bif Nat.blt pc 31 then (bif Nat.beq pc 30 then some (.iload_n 2, 1, 2, 0, 0, mj_u) else none) else
      (bif Nat.beq pc 31 then some (.aload_n 0, 1, 0, 0, 0, mj_u) else none)) else
     (bif Nat.blt pc 33 then (bif Nat.beq pc 32 then some (.iload_n 2, 1, 2, 0, 0, mj_u) else none) else
      (bif Nat.beq pc 33 then some (.invokevirtual 56, 3, 137, 0, 1029, mj_u) else none)))) else
   (bif Nat.blt pc 44 then (bif Nat.blt pc 42 then (bif Nat.blt pc 39 then (bif Nat.beq pc 36 then some (.invokevirtual 53, 3, 134, 0, 1037, mj_u) else none) else
      (bif Nat.beq pc 39 then some (.goto 4, 3, 43, 0, 0, mj_u) else none)) else
     (bif Nat.blt pc 43 then (bif Nat.beq pc 42 then some (.iconst (-1), 1, 0, 0, 0, .int (-1)) else none) else
      (bif Nat.beq pc 43 then some (.iastore, 1, 0, 0, 0, mj_u) else none))) else
    (bif Nat.blt pc 50 then (bif Nat.blt pc 47 then (bif Nat.beq pc 44 then some (.iinc 2 1, 3, 2, 0, 0, .int 1) else none) else
      (bif Nat.beq pc 47 then some (.goto (-38), 3, 9, 0, 0, mj_u) else none)) else
     (bif Nat.blt pc 51 then (bif Nat.beq pc 50 then some (.aload_n 1, 1, 1, 0, 0, mj_u) else none) else
      (bif Nat.beq pc 51 then some (.areturn, 1, 0, 0, 0, mj_u) else none)))))
def m_ML_to : mj_M := (136, prog_12_method_11_code, 3, (Option.some (Jvm.ClassFile.FieldType.array Jvm.ClassFile.FieldType.int)), 9, 0, 1028, 1026, 1027, 56, 52, k_ML_to)
/-- WatershedMapModel$Land.goes(I)I -/
def k_ML_goes : Nat → Option mj_I := fun pc =>
  bif Nat.blt pc 51 then (bif Nat.blt pc 23 then (bif Nat.blt pc 13 then (bif Nat.blt pc 5 then (bif Nat.blt pc 1 then (bif Nat.beq pc 0 then some (.aload_n 0, 1, 0, 0, 0, mj_u) else none) else
      (bif Nat.blt pc 2 then (bif Nat.beq pc 1 then some (.iload_n 1, 1, 1, 0, 0, mj_u) else none) else
       (bif Nat.beq pc 2 then some (.invokevirtual 49, 3, 138, 0, 1033, mj_u) else none))) else
     (bif Nat.blt pc 8 then (bif Nat.beq pc 5 then some (.ifCond .eq 8, 3, 13, 0, 0, mj_u) else none) else
      (bif Nat.blt pc 10 then (bif Nat.beq pc 8 then some (.bipush 8, 2, 0, 0, 0, .int 8) else none) else
       (bif Nat.beq pc 10 then some (.goto 5, 3, 15, 0, 0, mj_u) else none)))) else
    (bif Nat.blt pc 17 then (bif Nat.blt pc 15 then (bif Nat.beq pc 13 then some (.bipush 9, 2, 0, 0, 0, .int 9) else none) else
      (bif Nat.blt pc 16 then (bif Nat.beq pc 15 then some (.istore_n 2, 1, 2, 0, 0, mj_u) else none) else
       (bif Nat.beq pc 16 then some (.iconst 0, 1, 0, 0, 0, .int 0) else none))) else
     (bif Nat.blt pc 19 then (bif Nat.blt pc 18 then (bif Nat.beq pc 17 then some (.istore_n 3, 1, 3, 0, 0, mj_u) else none) else
       (bif Nat.beq pc 18 then some (.iconst 0, 1, 0, 0, 0, .int 0) else none)) else
      (bif Nat.blt pc 21 then (bif Nat.beq pc 19 then some (.istore 4, 2, 4, 0, 0, mj_u) else none) else
       (bif Nat.beq pc 21 then some (.iload 4, 2, 4, 0, 0, mj_u) else none))))) else
   (bif Nat.blt pc 37 then (bif Nat.blt pc 29 then (bif Nat.blt pc 25 then (bif Nat.beq pc 23 then some (.bipush 8, 2, 0, 0, 0, .int 8) else none) else
      (bif Nat.blt pc 28 then (bif Nat.beq pc 25 then some (.if_icmp .ge 73, 3, 98, 0, 0, mj_u) else none) else
       (bif Nat.beq pc 28 then some (.aload_n 0, 1, 0, 0, 0, mj_u) else none))) else
     (bif Nat.blt pc 32 then (bif Nat.blt pc 30 then (bif Nat.beq pc 29 then some (.iload_n 1, 1, 1, 0, 0, mj_u) else none) else
       (bif Nat.beq pc 30 then some (.iload 4, 2, 4, 0, 0, mj_u) else none)) else
      (bif Nat.blt pc 35 then (bif Nat.beq pc 32 then some (.invokevirtual 53, 3, 134, 0, 1037, mj_u) else none) else
       (bif Nat.beq pc 35 then some (.istore 5, 2, 5, 0, 0, mj_u) else none)))) else
    (bif Nat.blt pc 43 then (bif Nat.blt pc 39 then (bif Nat.beq pc 37 then some (.iload 5, 2, 5, 0, 0, mj_u) else none) else
      (bif Nat.blt pc 42 then (bif Nat.beq pc 39 then some (.ifCond .ge 7, 3, 46, 0, 0, mj_u) else none) else
       (bif Nat.beq pc 42 then some (.iconst 0, 1, 0, 0, 0, .int 0) else none))) else
     (bif Nat.blt pc 47 then (bif Nat.blt pc 46 then (bif Nat.beq pc 43 then some (.goto 32, 3, 75, 0, 0, mj_u) else none) else
       (bif Nat.beq pc 46 then some (.aload_n 0, 1, 0, 0, 0, mj_u) else none)) else
      (bif Nat.blt pc 50 then (bif Nat.beq pc 47 then some (.getfield 18, 3, 9, 2, 895, .null) else none) else
       (bif Nat.beq pc 50 then some (.iload_n 1, 1, 1, 0, 0, mj_u) else none)))))) else
  (bif Nat.blt pc 74 then (bif Nat.blt pc 60 then (bif Nat.blt pc 56 then (bif Nat.blt pc 52 then (bif Nat.beq pc 51 then some (.iaload, 1, 0, 0, 0, mj_u) else none) else
      (bif Nat.blt pc 53 then (bif Nat.beq pc 52 then some (.aload_n 0, 1, 0, 0, 0, mj_u) else none) else
       (bif Nat.beq pc 53 then some (.getfield 18, 3, 9, 2, 895, .null) else none))) else
     (bif Nat.blt pc 58 then (bif Nat.beq pc 56 then some (.iload 5, 2, 5, 0, 0, mj_u) else none) else
      (bif Nat.blt pc 59 then (bif Nat.beq pc 58 then some (.iaload, 1, 0, 0, 0, mj_u) else none) else
       (bif Nat.beq pc 59 then some (.isub, 1, 0, 0, 0, mj_u) else none)))) else
    (bif Nat.blt pc 64 then (bif Nat.blt pc 62 then (bif Nat.beq pc 60 then some (.iload 4, 2, 4, 0, 0, mj_u) else none) else
      (bif Nat.blt pc 63 then (bif Nat.beq pc 62 then some (.iconst 2, 1, 0, 0, 0, .int 2) else none) else
       (bif Nat.beq pc 63 then some (.irem, 1, 0, 0, 0, mj_u) else none))) else
     (bif Nat.blt pc 69 then (bif Nat.blt pc 67 then (bif Nat.beq pc 64 then some (.ifCond .ne 8, 3, 72, 0, 0, mj_u) else none) else
       (bif Nat.beq pc 67 then some (.bipush 10, 2, 0, 0, 0, .int 10) else none)) else
      (bif Nat.blt pc 72 then (bif Nat.beq pc 69 then some (.goto 5, 3, 74, 0, 0, mj_u) else none) else
       (bif Nat.beq pc 72 then some (.bipush 7, 2, 0, 0, 0, .int 7) else none))))) else
   (bif Nat.blt pc 88 then (bif Nat.blt pc 79 then (bif Nat.blt pc 75 then (bif Nat.beq pc 74 then some (.imul, 1, 0, 0, 0, mj_u) else none) else
      (bif Nat.blt pc 77 then (bif Nat.beq pc 75 then some (.istore 6, 2, 6, 0, 0, mj_u) else none) else
       (bif Nat.beq pc 77 then some (.iload 6, 2, 6, 0, 0, mj_u) else none))) else
     (bif Nat.blt pc 83 then (bif Nat.blt pc 80 then (bif Nat.beq pc 79 then some (.iload_n 3, 1, 3, 0, 0, mj_u) else none) else
       (bif Nat.beq pc 80 then some (.if_icmp .gt 6, 3, 86, 0, 0, mj_u) else none)) else
      (bif Nat.blt pc 86 then (bif Nat.beq pc 83 then some (.goto 9, 3, 92, 0, 0, mj_u) else none) else
       (bif Nat.beq pc 86 then some (.iload 6, 2, 6, 0, 0, mj_u) else none)))) else
    (bif Nat.blt pc 92 then (bif Nat.blt pc 89 then (bif Nat.beq pc 88 then some (.istore_n 3, 1, 3, 0, 0, mj_u) else none) else
      (bif Nat.blt pc 91 then (bif Nat.beq pc 89 then some (.iload 4, 2, 4, 0, 0, mj_u) else none) else
       (bif Nat.beq pc 91 then some (.istore_n 2, 1, 2, 0, 0, mj_u) else none))) else
     (bif Nat.blt pc 98 then (bif Nat.blt pc 95 then (bif Nat.beq pc 92 then some (.iinc 4 1, 3, 4, 0, 0, .int 1) else none) else
       (bif Nat.beq pc 95 then some (.goto (-74), 3, 21, 0, 0, mj_u) else none)) else
      (bif Nat.blt pc 99 then (bif Nat.beq pc 98 then some (.iload_n 2, 1, 2, 0, 0, mj_u) else none) else
       (bif Nat.beq pc 99 then some (.ireturn, 1, 0, 0, 0, mj_u) else none))))))
def m_ML_goes : mj_M := (137, prog_12_method_10_code, 7, (Option.some Jvm.ClassFile.FieldType.int), 9, 1, 1032, 1030, 1031, 56, 100, k_ML_goes)
/-- WatershedMapModel$Land.isEdge(I)Z -/
def k_ML_isEdge : Nat → Option mj_I := fun pc =>
  bif Nat.blt pc 26 then (bif Nat.blt pc 14 then (bif Nat.blt pc 6 then (bif Nat.blt pc 2 then (bif Nat.blt pc 1 then (bif Nat.beq pc 0 then some (.iload_n 1, 1, 1, 0, 0, mj_u) else none) else
      (bif Nat.beq pc 1 then some (.aload_n 0, 1, 0, 0, 0, mj_u) else none)) else
     (bif Nat.blt pc 5 then (bif Nat.beq pc 2 then some (.getfield 9, 3, 9, 0, 891, .int 0) else none) else
      (bif Nat.beq pc 5 then some (.irem, 1, 0, 0, 0, mj_u) else none))) else
    (bif Nat.blt pc 10 then (bif Nat.blt pc 9 then (bif Nat.beq pc 6 then some (.ifCond .eq 42, 3, 48, 0, 0, mj_u) else none) else
      (bif Nat.beq pc 9 then some (.iload_n 1, 1, 1, 0, 0, mj_u) else none)) else
     (bif Nat.blt pc 11 then (bif Nat.beq pc 10 then some (.aload_n 0, 1, 0, 0, 0, mj_u) else none) else
      (bif Nat.beq pc 11 then some (.getfield 9, 3, 9, 0, 891, .int 0) else none)))) else
   (bif Nat.blt pc 20 then (bif Nat.blt pc 16 then (bif Nat.blt pc 15 then (bif Nat.beq pc 14 then some (.irem, 1, 0, 0, 0, mj_u) else none) else
      (bif Nat.beq pc 15 then some (.aload_n 0, 1, 0, 0, 0, mj_u) else none)) else
     (bif Nat.blt pc 19 then (bif Nat.beq pc 16 then some (.getfield 9, 3, 9, 0, 891, .int 0) else none) else
      (bif Nat.beq pc 19 then some (.iconst 1, 1, 0, 0, 0, .int 1) else none))) else
    (bif Nat.blt pc 24 then (bif Nat.blt pc 21 then (bif Nat.beq pc 20 then some (.isub, 1, 0, 0, 0, mj_u) else none) else
      (bif Nat.beq pc 21 then some (.if_icmp .eq 27, 3, 48, 0, 0, mj_u) else none)) else
     (bif Nat.blt pc 25 then (bif Nat.beq pc 24 then some (.iload_n 1, 1, 1, 0, 0, mj_u) else none) else
      (bif Nat.beq pc 25 then some (.aload_n 0, 1, 0, 0, 0, mj_u) else none))))) else
  (bif Nat.blt pc 40 then (bif Nat.blt pc 34 then (bif Nat.blt pc 30 then (bif Nat.blt pc 29 then (bif Nat.beq pc 26 then some (.getfield 9, 3, 9, 0, 891, .int 0) else none) else
      (bif Nat.beq pc 29 then some (.idiv, 1, 0, 0, 0, mj_u) else none)) else
     (bif Nat.blt pc 33 then (bif Nat.beq pc 30 then some (.ifCond .eq 18, 3, 48, 0, 0, mj_u) else none) else
      (bif Nat.beq pc 33 then some (.iload_n 1, 1, 1, 0, 0, mj_u) else none))) else
    (bif Nat.blt pc 38 then (bif Nat.blt pc 35 then (bif Nat.beq pc 34 then some (.aload_n 0, 1, 0, 0, 0, mj_u) else none) else
      (bif Nat.beq pc 35 then some (.getfield 9, 3, 9, 0, 891, .int 0) else none)) else
     (bif Nat.blt pc 39 then (bif Nat.beq pc 38 then some (.idiv, 1, 0, 0, 0, mj_u) else none) else
      (bif Nat.beq pc 39 then some (.aload_n 0, 1, 0, 0, 0, mj_u) else none)))) else
   (bif Nat.blt pc 48 then (bif Nat.blt pc 44 then (bif Nat.blt pc 43 then (bif Nat.beq pc 40 then some (.getfield 15, 3, 9, 1, 893, .int 0) else none) else
      (bif Nat.beq pc 43 then some (.iconst 1, 1, 0, 0, 0, .int 1) else none)) else
     (bif Nat.blt pc 45 then (bif Nat.beq pc 44 then some (.isub, 1, 0, 0, 0, mj_u) else none) else
      (bif Nat.beq pc 45 then some (.if_icmp .ne 7, 3, 52, 0, 0, mj_u) else none))) else
    (bif Nat.blt pc 52 then (bif Nat.blt pc 49 then (bif Nat.beq pc 48 then some (.iconst 1, 1, 0, 0, 0, .int 1) else none) else
      (bif Nat.beq pc 49 then some (.goto 4, 3, 53, 0, 0, mj_u) else none)) else
     (bif Nat.blt pc 53 then (bif Nat.beq pc 52 then some (.iconst 0, 1, 0, 0, 0, .int 0) else none) else
      (bif Nat.beq pc 53 then some (.ireturn, 1, 0, 0, 0, mj_u) else none)))))
def m_ML_isEdge : mj_M := (138, prog_12_method_4_code, 2, (Option.some Jvm.ClassFile.FieldType.boolean), 9, 1, 1036, 1034, 1035, 56, 54, k_ML_isEdge)
/-- WatershedMapModel$Land.flows([I)[I -/
def k_ML_flows : Nat → Option mj_I := fun pc =>
  bif Nat.blt pc 26 then (bif Nat.blt pc 10 then (bif Nat.blt pc 6 then (bif Nat.blt pc 1 then (bif Nat.beq pc 0 then some (.aload_n 0, 1, 0, 0, 0, mj_u) else none) else
     (bif Nat.blt pc 4 then (bif Nat.beq pc 1 then some (.invokevirtual 45, 3, 127, 0, 981, mj_u) else none) else
      (bif Nat.beq pc 4 then some (.newarray .int, 2, 0, 0, 0, mj_u) else none))) else
    (bif Nat.blt pc 8 then (bif Nat.blt pc 7 then (bif Nat.beq pc 6 then some (.astore_n 2, 1, 2, 0, 0, mj_u) else none) else
      (bif Nat.beq pc 7 then some (.iconst 0, 1, 0, 0, 0, .int 0) else none)) else
     (bif Nat.blt pc 9 then (bif Nat.beq pc 8 then some (.istore_n 3, 1, 3, 0, 0, mj_u) else none) else
      (bif Nat.beq pc 9 then some (.iload_n 3, 1, 3, 0, 0, mj_u) else none)))) else
   (bif Nat.blt pc 18 then (bif Nat.blt pc 14 then (bif Nat.blt pc 11 then (bif Nat.beq pc 10 then some (.aload_n 0, 1, 0, 0, 0, mj_u) else none) else
      (bif Nat.beq pc 11 then some (.invokevirtual 45, 3, 127, 0, 981, mj_u) else none)) else
     (bif Nat.blt pc 17 then (bif Nat.beq pc 14 then some (.if_icmp .ge 34, 3, 48, 0, 0, mj_u) else none) else
      (bif Nat.beq pc 17 then some (.iload_n 3, 1, 3, 0, 0, mj_u) else none))) else
    (bif Nat.blt pc 22 then (bif Nat.blt pc 20 then (bif Nat.beq pc 18 then some (.istore 4, 2, 4, 0, 0, mj_u) else none) else
      (bif Nat.beq pc 20 then some (.iload 4, 2, 4, 0, 0, mj_u) else none)) else
     (bif Nat.blt pc 25 then (bif Nat.beq pc 22 then some (.ifCond .lt 20, 3, 42, 0, 0, mj_u) else none) else
      (bif Nat.beq pc 25 then some (.aload_n 2, 1, 2, 0, 0, mj_u) else none))))) else
  (bif Nat.blt pc 34 then (bif Nat.blt pc 30 then (bif Nat.blt pc 28 then (bif Nat.beq pc 26 then some (.iload 4, 2, 4, 0, 0, mj_u) else none) else
     (bif Nat.blt pc 29 then (bif Nat.beq pc 28 then some (.dup2, 1, 0, 0, 0, mj_u) else none) else
      (bif Nat.beq pc 29 then some (.iaload, 1, 0, 0, 0, mj_u) else none))) else
    (bif Nat.blt pc 32 then (bif Nat.blt pc 31 then (bif Nat.beq pc 30 then some (.iconst 1, 1, 0, 0, 0, .int 1) else none) else
      (bif Nat.beq pc 31 then some (.iadd, 1, 0, 0, 0, mj_u) else none)) else
     (bif Nat.blt pc 33 then (bif Nat.beq pc 32 then some (.iastore, 1, 0, 0, 0, mj_u) else none) else
      (bif Nat.beq pc 33 then some (.aload_n 1, 1, 1, 0, 0, mj_u) else none)))) else
   (bif Nat.blt pc 42 then (bif Nat.blt pc 37 then (bif Nat.blt pc 36 then (bif Nat.beq pc 34 then some (.iload 4, 2, 4, 0, 0, mj_u) else none) else
      (bif Nat.beq pc 36 then some (.iaload, 1, 0, 0, 0, mj_u) else none)) else
     (bif Nat.blt pc 39 then (bif Nat.beq pc 37 then some (.istore 4, 2, 4, 0, 0, mj_u) else none) else
      (bif Nat.beq pc 39 then some (.goto (-19), 3, 20, 0, 0, mj_u) else none))) else
    (bif Nat.blt pc 48 then (bif Nat.blt pc 45 then (bif Nat.beq pc 42 then some (.iinc 3 1, 3, 3, 0, 0, .int 1) else none) else
      (bif Nat.beq pc 45 then some (.goto (-36), 3, 9, 0, 0, mj_u) else none)) else
     (bif Nat.blt pc 49 then (bif Nat.beq pc 48 then some (.aload_n 2, 1, 2, 0, 0, mj_u) else none) else
      (bif Nat.beq pc 49 then some (.areturn, 1, 0, 0, 0, mj_u) else none)))))
def m_ML_flows : mj_M := (139, prog_12_method_12_code, 5, (Option.some (Jvm.ClassFile.FieldType.array Jvm.ClassFile.FieldType.int)), 9, 1, 1041, 1039, 1040, 56, 50, k_ML_flows)
/-- WatershedMapModel.fill()I -/
def k_M_fill : Nat → Option mj_I := fun pc =>
  bif Nat.blt pc 13 then (bif Nat.blt pc 5 then (bif Nat.blt pc 1 then (bif Nat.beq pc 0 then some (.aload_n 0, 1, 0, 0, 0, mj_u) else none) else
    (bif Nat.blt pc 2 then (bif Nat.beq pc 1 then some (.iconst 0, 1, 0, 0, 0, .int 0) else none) else
     (bif Nat.beq pc 2 then some (.putfield 31, 3, 10, 0, 904, .int 0) else none))) else
   (bif Nat.blt pc 9 then (bif Nat.blt pc 6 then (bif Nat.beq pc 5 then some (.aload_n 0, 1, 0, 0, 0, mj_u) else none) else
     (bif Nat.beq pc 6 then some (.getfield 23, 3, 10, 1, 905, .null) else none)) else
    (bif Nat.blt pc 12 then (bif Nat.beq pc 9 then some (.invokevirtual 110, 3, 141, 0, 1046, mj_u) else none) else
     (bif Nat.beq pc 12 then some (.istore_n 1, 1, 1, 0, 0, mj_u) else none)))) else
  (bif Nat.blt pc 21 then (bif Nat.blt pc 15 then (bif Nat.blt pc 14 then (bif Nat.beq pc 13 then some (.aload_n 0, 1, 0, 0, 0, mj_u) else none) else
     (bif Nat.beq pc 14 then some (.aload_n 0, 1, 0, 0, 0, mj_u) else none)) else
    (bif Nat.blt pc 18 then (bif Nat.beq pc 15 then some (.getfield 23, 3, 10, 1, 905, .null) else none) else
     (bif Nat.beq pc 18 then some (.invokevirtual 113, 3, 142, 0, 1055, mj_u) else none))) else
   (bif Nat.blt pc 25 then (bif Nat.blt pc 24 then (bif Nat.beq pc 21 then some (.invokevirtual 82, 3, 125, 0, 973, mj_u) else none) else
     (bif Nat.beq pc 24 then some (.pop, 1, 0, 0, 0, mj_u) else none)) else
    (bif Nat.blt pc 26 then (bif Nat.beq pc 25 then some (.iload_n 1, 1, 1, 0, 0, mj_u) else none) else
     (bif Nat.beq pc 26 then some (.ireturn, 1, 0, 0, 0, mj_u) else none))))
def m_M_fill : mj_M := (140, prog_11_method_19_code, 2, (Option.some Jvm.ClassFile.FieldType.int), 10, 0, 1045, 1043, 1044, 55, 27, k_M_fill)
/-- WatershedMapModel$Land.volume()I -/
def k_ML_volume : Nat → Option mj_I := fun pc =>
  bif Nat.blt pc 19 then (bif Nat.blt pc 8 then (bif Nat.blt pc 3 then (bif Nat.blt pc 1 then (bif Nat.beq pc 0 then some (.iconst 0, 1, 0, 0, 0, .int 0) else none) else
     (bif Nat.blt pc 2 then (bif Nat.beq pc 1 then some (.istore_n 1, 1, 1, 0, 0, mj_u) else none) else
      (bif Nat.beq pc 2 then some (.aload_n 0, 1, 0, 0, 0, mj_u) else none))) else
    (bif Nat.blt pc 6 then (bif Nat.beq pc 3 then some (.invokevirtual 64, 3, 142, 0, 1050, mj_u) else none) else
     (bif Nat.blt pc 7 then (bif Nat.beq pc 6 then some (.astore_n 2, 1, 2, 0, 0, mj_u) else none) else
      (bif Nat.beq pc 7 then some (.iconst 0, 1, 0, 0, 0, .int 0) else none)))) else
   (bif Nat.blt pc 11 then (bif Nat.blt pc 9 then (bif Nat.beq pc 8 then some (.istore_n 3, 1, 3, 0, 0, mj_u) else none) else
     (bif Nat.blt pc 10 then (bif Nat.beq pc 9 then some (.iload_n 3, 1, 3, 0, 0, mj_u) else none) else
      (bif Nat.beq pc 10 then some (.aload_n 0, 1, 0, 0, 0, mj_u) else none))) else
    (bif Nat.blt pc 17 then (bif Nat.blt pc 14 then (bif Nat.beq pc 11 then some (.invokevirtual 45, 3, 127, 0, 981, mj_u) else none) else
      (bif Nat.beq pc 14 then some (.if_icmp .ge 22, 3, 36, 0, 0, mj_u) else none)) else
     (bif Nat.blt pc 18 then (bif Nat.beq pc 17 then some (.iload_n 1, 1, 1, 0, 0, mj_u) else none) else
      (bif Nat.beq pc 18 then some (.aload_n 2, 1, 2, 0, 0, mj_u) else none))))) else
  (bif Nat.blt pc 27 then (bif Nat.blt pc 22 then (bif Nat.blt pc 20 then (bif Nat.beq pc 19 then some (.iload_n 3, 1, 3, 0, 0, mj_u) else none) else
     (bif Nat.blt pc 21 then (bif Nat.beq pc 20 then some (.iaload, 1, 0, 0, 0, mj_u) else none) else
      (bif Nat.beq pc 21 then some (.aload_n 0, 1, 0, 0, 0, mj_u) else none))) else
    (bif Nat.blt pc 25 then (bif Nat.beq pc 22 then some (.getfield 18, 3, 9, 2, 895, .null) else none) else
     (bif Nat.blt pc 26 then (bif Nat.beq pc 25 then some (.iload_n 3, 1, 3, 0, 0, mj_u) else none) else
      (bif Nat.beq pc 26 then some (.iaload, 1, 0, 0, 0, mj_u) else none)))) else
   (bif Nat.blt pc 30 then (bif Nat.blt pc 28 then (bif Nat.beq pc 27 then some (.isub, 1, 0, 0, 0, mj_u) else none) else
     (bif Nat.blt pc 29 then (bif Nat.beq pc 28 then some (.iadd, 1, 0, 0, 0, mj_u) else none) else
      (bif Nat.beq pc 29 then some (.istore_n 1, 1, 1, 0, 0, mj_u) else none))) else
    (bif Nat.blt pc 36 then (bif Nat.blt pc 33 then (bif Nat.beq pc 30 then some (.iinc 3 1, 3, 3, 0, 0, .int 1) else none) else
      (bif Nat.beq pc 33 then some (.goto (-24), 3, 9, 0, 0, mj_u) else none)) else
     (bif Nat.blt pc 37 then (bif Nat.beq pc 36 then some (.iload_n 1, 1, 1, 0, 0, mj_u) else none) else
      (bif Nat.beq pc 37 then some (.ireturn, 1, 0, 0, 0, mj_u) else none)))))
def m_ML_volume : mj_M := (141, prog_12_method_17_code, 4, (Option.some Jvm.ClassFile.FieldType.int), 9, 0, 1049, 1047, 1048, 56, 38, k_ML_volume)
/-- WatershedMapModel$Land.levels()[I -/
def k_ML_levels : Nat → Option mj_I := fun pc =>
  bif Nat.blt pc 91 then (bif Nat.blt pc 43 then (bif Nat.blt pc 18 then (bif Nat.blt pc 11 then (bif Nat.blt pc 6 then (bif Nat.blt pc 1 then (bif Nat.beq pc 0 then some (.aload_n 0, 1, 0, 0, 0, mj_u) else none) else
       (bif Nat.blt pc 4 then (bif Nat.beq pc 1 then some (.invokevirtual 45, 3, 127, 0, 981, mj_u) else none) else
        (bif Nat.beq pc 4 then some (.newarray .int, 2, 0, 0, 0, mj_u) else none))) else
      (bif Nat.blt pc 7 then (bif Nat.beq pc 6 then some (.astore_n 1, 1, 1, 0, 0, mj_u) else none) else
       (bif Nat.blt pc 8 then (bif Nat.beq pc 7 then some (.aload_n 0, 1, 0, 0, 0, mj_u) else none) else
        (bif Nat.beq pc 8 then some (.invokevirtual 45, 3, 127, 0, 981, mj_u) else none)))) else
     (bif Nat.blt pc 15 then (bif Nat.blt pc 13 then (bif Nat.beq pc 11 then some (.newarray .boolean, 2, 0, 0, 0, mj_u) else none) else
       (bif Nat.blt pc 14 then (bif Nat.beq pc 13 then some (.astore_n 2, 1, 2, 0, 0, mj_u) else none) else
        (bif Nat.beq pc 14 then some (.iconst 0, 1, 0, 0, 0, .int 0) else none))) else
      (bif Nat.blt pc 16 then (bif Nat.beq pc 15 then some (.istore_n 3, 1, 3, 0, 0, mj_u) else none) else
       (bif Nat.blt pc 17 then (bif Nat.beq pc 16 then some (.iload_n 3, 1, 3, 0, 0, mj_u) else none) else
        (bif Nat.beq pc 17 then some (.aload_n 0, 1, 0, 0, 0, mj_u) else none))))) else
    (bif Nat.blt pc 28 then (bif Nat.blt pc 25 then (bif Nat.blt pc 21 then (bif Nat.beq pc 18 then some (.invokevirtual 45, 3, 127, 0, 981, mj_u) else none) else
       (bif Nat.blt pc 24 then (bif Nat.beq pc 21 then some (.if_icmp .ge 32, 3, 53, 0, 0, mj_u) else none) else
        (bif Nat.beq pc 24 then some (.aload_n 1, 1, 1, 0, 0, mj_u) else none))) else
      (bif Nat.blt pc 26 then (bif Nat.beq pc 25 then some (.iload_n 3, 1, 3, 0, 0, mj_u) else none) else
       (bif Nat.blt pc 27 then (bif Nat.beq pc 26 then some (.aload_n 0, 1, 0, 0, 0, mj_u) else none) else
        (bif Nat.beq pc 27 then some (.iload_n 3, 1, 3, 0, 0, mj_u) else none)))) else
     (bif Nat.blt pc 35 then (bif Nat.blt pc 31 then (bif Nat.beq pc 28 then some (.invokevirtual 49, 3, 138, 0, 1033, mj_u) else none) else
       (bif Nat.blt pc 34 then (bif Nat.beq pc 31 then some (.ifCond .eq 12, 3, 43, 0, 0, mj_u) else none) else
        (bif Nat.beq pc 34 then some (.aload_n 0, 1, 0, 0, 0, mj_u) else none))) else
      (bif Nat.blt pc 39 then (bif Nat.blt pc 38 then (bif Nat.beq pc 35 then some (.getfield 18, 3, 9, 2, 895, .null) else none) else
        (bif Nat.beq pc 38 then some (.iload_n 3, 1, 3, 0, 0, mj_u) else none)) else
       (bif Nat.blt pc 40 then (bif Nat.beq pc 39 then some (.iaload, 1, 0, 0, 0, mj_u) else none) else
        (bif Nat.beq pc 40 then some (.goto 6, 3, 46, 0, 0, mj_u) else none)))))) else
   (bif Nat.blt pc 66 then (bif Nat.blt pc 55 then (bif Nat.blt pc 50 then (bif Nat.blt pc 46 then (bif Nat.beq pc 43 then some (.sipush 1000, 3, 0, 0, 0, .int 1000) else none) else
       (bif Nat.blt pc 47 then (bif Nat.beq pc 46 then some (.iastore, 1, 0, 0, 0, mj_u) else none) else
        (bif Nat.beq pc 47 then some (.iinc 3 1, 3, 3, 0, 0, .int 1) else none))) else
      (bif Nat.blt pc 53 then (bif Nat.beq pc 50 then some (.goto (-34), 3, 16, 0, 0, mj_u) else none) else
       (bif Nat.blt pc 54 then (bif Nat.beq pc 53 then some (.iconst 0, 1, 0, 0, 0, .int 0) else none) else
        (bif Nat.beq pc 54 then some (.istore_n 3, 1, 3, 0, 0, mj_u) else none)))) else
     (bif Nat.blt pc 60 then (bif Nat.blt pc 56 then (bif Nat.beq pc 55 then some (.iload_n 3, 1, 3, 0, 0, mj_u) else none) else
       (bif Nat.blt pc 57 then (bif Nat.beq pc 56 then some (.aload_n 0, 1, 0, 0, 0, mj_u) else none) else
        (bif Nat.beq pc 57 then some (.invokevirtual 45, 3, 127, 0, 981, mj_u) else none))) else
      (bif Nat.blt pc 63 then (bif Nat.beq pc 60 then some (.if_icmp .ge 125, 3, 185, 0, 0, mj_u) else none) else
       (bif Nat.blt pc 64 then (bif Nat.beq pc 63 then some (.iconst (-1), 1, 0, 0, 0, .int (-1)) else none) else
        (bif Nat.beq pc 64 then some (.istore 4, 2, 4, 0, 0, mj_u) else none))))) else
    (bif Nat.blt pc 78 then (bif Nat.blt pc 71 then (bif Nat.blt pc 67 then (bif Nat.beq pc 66 then some (.iconst 0, 1, 0, 0, 0, .int 0) else none) else
       (bif Nat.blt pc 69 then (bif Nat.beq pc 67 then some (.istore 5, 2, 5, 0, 0, mj_u) else none) else
        (bif Nat.beq pc 69 then some (.iload 5, 2, 5, 0, 0, mj_u) else none))) else
      (bif Nat.blt pc 72 then (bif Nat.beq pc 71 then some (.aload_n 0, 1, 0, 0, 0, mj_u) else none) else
       (bif Nat.blt pc 75 then (bif Nat.beq pc 72 then some (.invokevirtual 45, 3, 127, 0, 981, mj_u) else none) else
        (bif Nat.beq pc 75 then some (.if_icmp .ge 36, 3, 111, 0, 0, mj_u) else none)))) else
     (bif Nat.blt pc 82 then (bif Nat.blt pc 79 then (bif Nat.beq pc 78 then some (.aload_n 2, 1, 2, 0, 0, mj_u) else none) else
       (bif Nat.blt pc 81 then (bif Nat.beq pc 79 then some (.iload 5, 2, 5, 0, 0, mj_u) else none) else
        (bif Nat.beq pc 81 then some (.baload, 1, 0, 0, 0, mj_u) else none))) else
      (bif Nat.blt pc 87 then (bif Nat.blt pc 85 then (bif Nat.beq pc 82 then some (.ifCond .ne 23, 3, 105, 0, 0, mj_u) else none) else
        (bif Nat.beq pc 85 then some (.iload 4, 2, 4, 0, 0, mj_u) else none)) else
       (bif Nat.blt pc 90 then (bif Nat.beq pc 87 then some (.ifCond .lt 14, 3, 101, 0, 0, mj_u) else none) else
        (bif Nat.beq pc 90 then some (.aload_n 1, 1, 1, 0, 0, mj_u) else none))))))) else
  (bif Nat.blt pc 138 then (bif Nat.blt pc 114 then (bif Nat.blt pc 101 then (bif Nat.blt pc 95 then (bif Nat.blt pc 93 then (bif Nat.beq pc 91 then some (.iload 5, 2, 5, 0, 0, mj_u) else none) else
       (bif Nat.blt pc 94 then (bif Nat.beq pc 93 then some (.iaload, 1, 0, 0, 0, mj_u) else none) else
        (bif Nat.beq pc 94 then some (.aload_n 1, 1, 1, 0, 0, mj_u) else none))) else
      (bif Nat.blt pc 97 then (bif Nat.beq pc 95 then some (.iload 4, 2, 4, 0, 0, mj_u) else none) else
       (bif Nat.blt pc 98 then (bif Nat.beq pc 97 then some (.iaload, 1, 0, 0, 0, mj_u) else none) else
        (bif Nat.beq pc 98 then some (.if_icmp .ge 7, 3, 105, 0, 0, mj_u) else none)))) else
     (bif Nat.blt pc 108 then (bif Nat.blt pc 103 then (bif Nat.beq pc 101 then some (.iload 5, 2, 5, 0, 0, mj_u) else none) else
       (bif Nat.blt pc 105 then (bif Nat.beq pc 103 then some (.istore 4, 2, 4, 0, 0, mj_u) else none) else
        (bif Nat.beq pc 105 then some (.iinc 5 1, 3, 5, 0, 0, .int 1) else none))) else
      (bif Nat.blt pc 111 then (bif Nat.beq pc 108 then some (.goto (-39), 3, 69, 0, 0, mj_u) else none) else
       (bif Nat.blt pc 112 then (bif Nat.beq pc 111 then some (.aload_n 2, 1, 2, 0, 0, mj_u) else none) else
        (bif Nat.beq pc 112 then some (.iload 4, 2, 4, 0, 0, mj_u) else none))))) else
    (bif Nat.blt pc 123 then (bif Nat.blt pc 117 then (bif Nat.blt pc 115 then (bif Nat.beq pc 114 then some (.iconst 1, 1, 0, 0, 0, .int 1) else none) else
       (bif Nat.blt pc 116 then (bif Nat.beq pc 115 then some (.bastore, 1, 0, 0, 0, mj_u) else none) else
        (bif Nat.beq pc 116 then some (.iconst 0, 1, 0, 0, 0, .int 0) else none))) else
      (bif Nat.blt pc 119 then (bif Nat.beq pc 117 then some (.istore 5, 2, 5, 0, 0, mj_u) else none) else
       (bif Nat.blt pc 121 then (bif Nat.beq pc 119 then some (.iload 5, 2, 5, 0, 0, mj_u) else none) else
        (bif Nat.beq pc 121 then some (.bipush 8, 2, 0, 0, 0, .int 8) else none)))) else
     (bif Nat.blt pc 129 then (bif Nat.blt pc 126 then (bif Nat.beq pc 123 then some (.if_icmp .ge 56, 3, 179, 0, 0, mj_u) else none) else
       (bif Nat.blt pc 127 then (bif Nat.beq pc 126 then some (.aload_n 0, 1, 0, 0, 0, mj_u) else none) else
        (bif Nat.beq pc 127 then some (.iload 4, 2, 4, 0, 0, mj_u) else none))) else
      (bif Nat.blt pc 134 then (bif Nat.blt pc 131 then (bif Nat.beq pc 129 then some (.iload 5, 2, 5, 0, 0, mj_u) else none) else
        (bif Nat.beq pc 131 then some (.invokevirtual 53, 3, 134, 0, 1037, mj_u) else none)) else
       (bif Nat.blt pc 136 then (bif Nat.beq pc 134 then some (.istore 6, 2, 6, 0, 0, mj_u) else none) else
        (bif Nat.beq pc 136 then some (.iload 6, 2, 6, 0, 0, mj_u) else none)))))) else
   (bif Nat.blt pc 159 then (bif Nat.blt pc 149 then (bif Nat.blt pc 144 then (bif Nat.blt pc 141 then (bif Nat.beq pc 138 then some (.ifCond .lt 35, 3, 173, 0, 0, mj_u) else none) else
       (bif Nat.blt pc 142 then (bif Nat.beq pc 141 then some (.aload_n 2, 1, 2, 0, 0, mj_u) else none) else
        (bif Nat.beq pc 142 then some (.iload 6, 2, 6, 0, 0, mj_u) else none))) else
      (bif Nat.blt pc 145 then (bif Nat.beq pc 144 then some (.baload, 1, 0, 0, 0, mj_u) else none) else
       (bif Nat.blt pc 148 then (bif Nat.beq pc 145 then some (.ifCond .ne 28, 3, 173, 0, 0, mj_u) else none) else
        (bif Nat.beq pc 148 then some (.aload_n 1, 1, 1, 0, 0, mj_u) else none)))) else
     (bif Nat.blt pc 154 then (bif Nat.blt pc 151 then (bif Nat.beq pc 149 then some (.iload 6, 2, 6, 0, 0, mj_u) else none) else
       (bif Nat.blt pc 152 then (bif Nat.beq pc 151 then some (.aload_n 1, 1, 1, 0, 0, mj_u) else none) else
        (bif Nat.beq pc 152 then some (.iload 6, 2, 6, 0, 0, mj_u) else none))) else
      (bif Nat.blt pc 156 then (bif Nat.blt pc 155 then (bif Nat.beq pc 154 then some (.iaload, 1, 0, 0, 0, mj_u) else none) else
        (bif Nat.beq pc 155 then some (.aload_n 1, 1, 1, 0, 0, mj_u) else none)) else
       (bif Nat.blt pc 158 then (bif Nat.beq pc 156 then some (.iload 4, 2, 4, 0, 0, mj_u) else none) else
        (bif Nat.beq pc 158 then some (.iaload, 1, 0, 0, 0, mj_u) else none))))) else
    (bif Nat.blt pc 172 then (bif Nat.blt pc 165 then (bif Nat.blt pc 160 then (bif Nat.beq pc 159 then some (.aload_n 0, 1, 0, 0, 0, mj_u) else none) else
       (bif Nat.blt pc 163 then (bif Nat.beq pc 160 then some (.getfield 18, 3, 9, 2, 895, .null) else none) else
        (bif Nat.beq pc 163 then some (.iload 6, 2, 6, 0, 0, mj_u) else none))) else
      (bif Nat.blt pc 166 then (bif Nat.beq pc 165 then some (.iaload, 1, 0, 0, 0, mj_u) else none) else
       (bif Nat.blt pc 169 then (bif Nat.beq pc 166 then some (.invokestatic 42, 3, 26, 0, 989, mj_u) else none) else
        (bif Nat.beq pc 169 then some (.invokestatic 36, 3, 59, 0, 1054, mj_u) else none)))) else
     (bif Nat.blt pc 179 then (bif Nat.blt pc 173 then (bif Nat.beq pc 172 then some (.iastore, 1, 0, 0, 0, mj_u) else none) else
       (bif Nat.blt pc 176 then (bif Nat.beq pc 173 then some (.iinc 5 2, 3, 5, 0, 0, .int 2) else none) else
        (bif Nat.beq pc 176 then some (.goto (-57), 3, 119, 0, 0, mj_u) else none))) else
      (bif Nat.blt pc 185 then (bif Nat.blt pc 182 then (bif Nat.beq pc 179 then some (.iinc 3 1, 3, 3, 0, 0, .int 1) else none) else
        (bif Nat.beq pc 182 then some (.goto (-127), 3, 55, 0, 0, mj_u) else none)) else
       (bif Nat.blt pc 186 then (bif Nat.beq pc 185 then some (.aload_n 1, 1, 1, 0, 0, mj_u) else none) else
        (bif Nat.beq pc 186 then some (.areturn, 1, 0, 0, 0, mj_u) else none)))))))
def m_ML_levels : mj_M := (142, prog_12_method_16_code, 7, (Option.some (Jvm.ClassFile.FieldType.array Jvm.ClassFile.FieldType.int)), 9, 0, 1053, 1051, 1052, 56, 187, k_ML_levels)
/-- WatershedMapModel.setBrook(I)I -/
def k_M_setBrook : Nat → Option mj_I := fun pc =>
  bif Nat.blt pc 20 then (bif Nat.blt pc 8 then (bif Nat.blt pc 2 then (bif Nat.blt pc 1 then (bif Nat.beq pc 0 then some (.aload_n 0, 1, 0, 0, 0, mj_u) else none) else
     (bif Nat.beq pc 1 then some (.iload_n 1, 1, 1, 0, 0, mj_u) else none)) else
    (bif Nat.blt pc 3 then (bif Nat.beq pc 2 then some (.iconst 1, 1, 0, 0, 0, .int 1) else none) else
     (bif Nat.blt pc 5 then (bif Nat.beq pc 3 then some (.bipush 100, 2, 0, 0, 0, .int 100) else none) else
      (bif Nat.beq pc 5 then some (.invokestatic 41, 3, 115, 0, 922, mj_u) else none)))) else
   (bif Nat.blt pc 15 then (bif Nat.blt pc 11 then (bif Nat.beq pc 8 then some (.ifCond .ne 7, 3, 15, 0, 0, mj_u) else none) else
     (bif Nat.blt pc 12 then (bif Nat.beq pc 11 then some (.iconst 1, 1, 0, 0, 0, .int 1) else none) else
      (bif Nat.beq pc 12 then some (.goto 4, 3, 16, 0, 0, mj_u) else none))) else
    (bif Nat.blt pc 16 then (bif Nat.beq pc 15 then some (.iconst 0, 1, 0, 0, 0, .int 0) else none) else
     (bif Nat.blt pc 17 then (bif Nat.beq pc 16 then some (.iconst 1, 1, 0, 0, 0, .int 1) else none) else
      (bif Nat.beq pc 17 then some (.invokevirtual 52, 3, 116, 0, 925, mj_u) else none))))) else
  (bif Nat.blt pc 29 then (bif Nat.blt pc 24 then (bif Nat.blt pc 23 then (bif Nat.beq pc 20 then some (.ifCond .eq 5, 3, 25, 0, 0, mj_u) else none) else
     (bif Nat.beq pc 23 then some (.iconst 0, 1, 0, 0, 0, .int 0) else none)) else
    (bif Nat.blt pc 25 then (bif Nat.beq pc 24 then some (.ireturn, 1, 0, 0, 0, mj_u) else none) else
     (bif Nat.blt pc 26 then (bif Nat.beq pc 25 then some (.aload_n 0, 1, 0, 0, 0, mj_u) else none) else
      (bif Nat.beq pc 26 then some (.getfield 27, 3, 10, 2, 906, .int 0) else none)))) else
   (bif Nat.blt pc 32 then (bif Nat.blt pc 30 then (bif Nat.beq pc 29 then some (.istore_n 2, 1, 2, 0, 0, mj_u) else none) else
     (bif Nat.blt pc 31 then (bif Nat.beq pc 30 then some (.aload_n 0, 1, 0, 0, 0, mj_u) else none) else
      (bif Nat.beq pc 31 then some (.iload_n 1, 1, 1, 0, 0, mj_u) else none))) else
    (bif Nat.blt pc 35 then (bif Nat.beq pc 32 then some (.putfield 27, 3, 10, 2, 906, .int 0) else none) else
     (bif Nat.blt pc 36 then (bif Nat.beq pc 35 then some (.iload_n 2, 1, 2, 0, 0, mj_u) else none) else
      (bif Nat.beq pc 36 then some (.ireturn, 1, 0, 0, 0, mj_u) else none)))))
def m_M_setBrook : mj_M := (143, prog_11_method_20_code, 3, (Option.some Jvm.ClassFile.FieldType.int), 10, 1, 1059, 1057, 1058, 55, 37, k_M_setBrook)
/-- WatershedMapModel.map(I)I -/
def k_M_map : Nat → Option mj_I := fun pc =>
  bif Nat.blt pc 15 then (bif Nat.blt pc 4 then (bif Nat.blt pc 2 then (bif Nat.blt pc 1 then (bif Nat.beq pc 0 then some (.aload_n 0, 1, 0, 0, 0, mj_u) else none) else
     (bif Nat.beq pc 1 then some (.iload_n 1, 1, 1, 0, 0, mj_u) else none)) else
    (bif Nat.blt pc 3 then (bif Nat.beq pc 2 then some (.iconst 0, 1, 0, 0, 0, .int 0) else none) else
     (bif Nat.beq pc 3 then some (.iconst 4, 1, 0, 0, 0, .int 4) else none))) else
   (bif Nat.blt pc 10 then (bif Nat.blt pc 7 then (bif Nat.beq pc 4 then some (.invokestatic 41, 3, 115, 0, 922, mj_u) else none) else
     (bif Nat.beq pc 7 then some (.ifCond .ne 7, 3, 14, 0, 0, mj_u) else none)) else
    (bif Nat.blt pc 11 then (bif Nat.beq pc 10 then some (.iconst 1, 1, 0, 0, 0, .int 1) else none) else
     (bif Nat.blt pc 14 then (bif Nat.beq pc 11 then some (.goto 4, 3, 15, 0, 0, mj_u) else none) else
      (bif Nat.beq pc 14 then some (.iconst 0, 1, 0, 0, 0, .int 0) else none))))) else
  (bif Nat.blt pc 23 then (bif Nat.blt pc 19 then (bif Nat.blt pc 16 then (bif Nat.beq pc 15 then some (.iconst 1, 1, 0, 0, 0, .int 1) else none) else
     (bif Nat.beq pc 16 then some (.invokevirtual 52, 3, 116, 0, 925, mj_u) else none)) else
    (bif Nat.blt pc 22 then (bif Nat.beq pc 19 then some (.ifCond .eq 7, 3, 26, 0, 0, mj_u) else none) else
     (bif Nat.beq pc 22 then some (.iconst 0, 1, 0, 0, 0, .int 0) else none))) else
   (bif Nat.blt pc 27 then (bif Nat.blt pc 26 then (bif Nat.beq pc 23 then some (.goto 8, 3, 31, 0, 0, mj_u) else none) else
     (bif Nat.beq pc 26 then some (.aload_n 0, 1, 0, 0, 0, mj_u) else none)) else
    (bif Nat.blt pc 28 then (bif Nat.beq pc 27 then some (.iload_n 1, 1, 1, 0, 0, mj_u) else none) else
     (bif Nat.blt pc 31 then (bif Nat.beq pc 28 then some (.invokevirtual 122, 3, 145, 0, 1064, mj_u) else none) else
      (bif Nat.beq pc 31 then some (.ireturn, 1, 0, 0, 0, mj_u) else none)))))
def m_M_map : mj_M := (144, prog_11_method_22_code, 2, (Option.some Jvm.ClassFile.FieldType.int), 10, 1, 1063, 1061, 1062, 55, 32, k_M_map)
/-- WatershedMapModel.of(I)I -/
def k_M_of : Nat → Option mj_I := fun pc =>
  bif Nat.blt pc 29 then (bif Nat.blt pc 14 then (bif Nat.blt pc 5 then (bif Nat.blt pc 3 then (bif Nat.blt pc 1 then (bif Nat.beq pc 0 then some (.iconst 5, 1, 0, 0, 0, .int 5) else none) else
      (bif Nat.beq pc 1 then some (.newarray .int, 2, 0, 0, 0, mj_u) else none)) else
     (bif Nat.blt pc 4 then (bif Nat.beq pc 3 then some (.dup, 1, 0, 0, 0, mj_u) else none) else
      (bif Nat.beq pc 4 then some (.iconst 0, 1, 0, 0, 0, .int 0) else none))) else
    (bif Nat.blt pc 9 then (bif Nat.blt pc 6 then (bif Nat.beq pc 5 then some (.aload_n 0, 1, 0, 0, 0, mj_u) else none) else
      (bif Nat.beq pc 6 then some (.getfield 23, 3, 10, 1, 905, .null) else none)) else
     (bif Nat.blt pc 12 then (bif Nat.beq pc 9 then some (.getfield 38, 3, 9, 0, 892, .int 0) else none) else
      (bif Nat.blt pc 13 then (bif Nat.beq pc 12 then some (.iastore, 1, 0, 0, 0, mj_u) else none) else
       (bif Nat.beq pc 13 then some (.dup, 1, 0, 0, 0, mj_u) else none))))) else
   (bif Nat.blt pc 22 then (bif Nat.blt pc 16 then (bif Nat.blt pc 15 then (bif Nat.beq pc 14 then some (.iconst 1, 1, 0, 0, 0, .int 1) else none) else
      (bif Nat.beq pc 15 then some (.aload_n 0, 1, 0, 0, 0, mj_u) else none)) else
     (bif Nat.blt pc 19 then (bif Nat.beq pc 16 then some (.getfield 23, 3, 10, 1, 905, .null) else none) else
      (bif Nat.beq pc 19 then some (.getfield 45, 3, 9, 1, 894, .int 0) else none))) else
    (bif Nat.blt pc 24 then (bif Nat.blt pc 23 then (bif Nat.beq pc 22 then some (.iastore, 1, 0, 0, 0, mj_u) else none) else
      (bif Nat.beq pc 23 then some (.dup, 1, 0, 0, 0, mj_u) else none)) else
     (bif Nat.blt pc 25 then (bif Nat.beq pc 24 then some (.iconst 2, 1, 0, 0, 0, .int 2) else none) else
      (bif Nat.blt pc 26 then (bif Nat.beq pc 25 then some (.aload_n 0, 1, 0, 0, 0, mj_u) else none) else
       (bif Nat.beq pc 26 then some (.getfield 23, 3, 10, 1, 905, .null) else none)))))) else
  (bif Nat.blt pc 44 then (bif Nat.blt pc 35 then (bif Nat.blt pc 33 then (bif Nat.blt pc 32 then (bif Nat.beq pc 29 then some (.invokevirtual 116, 3, 146, 0, 1068, mj_u) else none) else
      (bif Nat.beq pc 32 then some (.iastore, 1, 0, 0, 0, mj_u) else none)) else
     (bif Nat.blt pc 34 then (bif Nat.beq pc 33 then some (.dup, 1, 0, 0, 0, mj_u) else none) else
      (bif Nat.beq pc 34 then some (.iconst 3, 1, 0, 0, 0, .int 3) else none))) else
    (bif Nat.blt pc 39 then (bif Nat.blt pc 36 then (bif Nat.beq pc 35 then some (.aload_n 0, 1, 0, 0, 0, mj_u) else none) else
      (bif Nat.beq pc 36 then some (.getfield 23, 3, 10, 1, 905, .null) else none)) else
     (bif Nat.blt pc 42 then (bif Nat.beq pc 39 then some (.invokevirtual 85, 3, 128, 0, 985, mj_u) else none) else
      (bif Nat.blt pc 43 then (bif Nat.beq pc 42 then some (.iastore, 1, 0, 0, 0, mj_u) else none) else
       (bif Nat.beq pc 43 then some (.dup, 1, 0, 0, 0, mj_u) else none))))) else
   (bif Nat.blt pc 53 then (bif Nat.blt pc 46 then (bif Nat.blt pc 45 then (bif Nat.beq pc 44 then some (.iconst 4, 1, 0, 0, 0, .int 4) else none) else
      (bif Nat.beq pc 45 then some (.aload_n 0, 1, 0, 0, 0, mj_u) else none)) else
     (bif Nat.blt pc 49 then (bif Nat.beq pc 46 then some (.getfield 23, 3, 10, 1, 905, .null) else none) else
      (bif Nat.blt pc 52 then (bif Nat.beq pc 49 then some (.invokevirtual 119, 3, 147, 0, 1072, mj_u) else none) else
       (bif Nat.beq pc 52 then some (.iastore, 1, 0, 0, 0, mj_u) else none)))) else
    (bif Nat.blt pc 55 then (bif Nat.blt pc 54 then (bif Nat.beq pc 53 then some (.astore_n 2, 1, 2, 0, 0, mj_u) else none) else
      (bif Nat.beq pc 54 then some (.aload_n 2, 1, 2, 0, 0, mj_u) else none)) else
     (bif Nat.blt pc 56 then (bif Nat.beq pc 55 then some (.iload_n 1, 1, 1, 0, 0, mj_u) else none) else
      (bif Nat.blt pc 57 then (bif Nat.beq pc 56 then some (.iaload, 1, 0, 0, 0, mj_u) else none) else
       (bif Nat.beq pc 57 then some (.ireturn, 1, 0, 0, 0, mj_u) else none))))))
def m_M_of : mj_M := (145, prog_11_method_21_code, 3, (Option.some Jvm.ClassFile.FieldType.int), 10, 1, 1067, 1066, 32, 55, 58, k_M_of)
/-- WatershedMapModel$Land.least()I -/
def k_ML_least : Nat → Option mj_I := fun pc =>
  bif Nat.blt pc 18 then (bif Nat.blt pc 10 then (bif Nat.blt pc 5 then (bif Nat.blt pc 3 then (bif Nat.beq pc 0 then some (.sipush 999, 3, 0, 0, 0, .int 999) else none) else
     (bif Nat.blt pc 4 then (bif Nat.beq pc 3 then some (.istore_n 1, 1, 1, 0, 0, mj_u) else none) else
      (bif Nat.beq pc 4 then some (.aload_n 0, 1, 0, 0, 0, mj_u) else none))) else
    (bif Nat.blt pc 8 then (bif Nat.beq pc 5 then some (.getfield 18, 3, 9, 2, 895, .null) else none) else
     (bif Nat.blt pc 9 then (bif Nat.beq pc 8 then some (.astore_n 2, 1, 2, 0, 0, mj_u) else none) else
      (bif Nat.beq pc 9 then some (.aload_n 2, 1, 2, 0, 0, mj_u) else none)))) else
   (bif Nat.blt pc 13 then (bif Nat.blt pc 11 then (bif Nat.beq pc 10 then some (.arraylength, 1, 0, 0, 0, mj_u) else none) else
     (bif Nat.blt pc 12 then (bif Nat.beq pc 11 then some (.istore_n 3, 1, 3, 0, 0, mj_u) else none) else
      (bif Nat.beq pc 12 then some (.iconst 0, 1, 0, 0, 0, .int 0) else none))) else
    (bif Nat.blt pc 15 then (bif Nat.beq pc 13 then some (.istore 4, 2, 4, 0, 0, mj_u) else none) else
     (bif Nat.blt pc 17 then (bif Nat.beq pc 15 then some (.iload 4, 2, 4, 0, 0, mj_u) else none) else
      (bif Nat.beq pc 17 then some (.iload_n 3, 1, 3, 0, 0, mj_u) else none))))) else
  (bif Nat.blt pc 28 then (bif Nat.blt pc 24 then (bif Nat.blt pc 21 then (bif Nat.beq pc 18 then some (.if_icmp .ge 22, 3, 40, 0, 0, mj_u) else none) else
     (bif Nat.blt pc 22 then (bif Nat.beq pc 21 then some (.aload_n 2, 1, 2, 0, 0, mj_u) else none) else
      (bif Nat.beq pc 22 then some (.iload 4, 2, 4, 0, 0, mj_u) else none))) else
    (bif Nat.blt pc 25 then (bif Nat.beq pc 24 then some (.iaload, 1, 0, 0, 0, mj_u) else none) else
     (bif Nat.blt pc 27 then (bif Nat.beq pc 25 then some (.istore 5, 2, 5, 0, 0, mj_u) else none) else
      (bif Nat.beq pc 27 then some (.iload_n 1, 1, 1, 0, 0, mj_u) else none)))) else
   (bif Nat.blt pc 34 then (bif Nat.blt pc 30 then (bif Nat.beq pc 28 then some (.iload 5, 2, 5, 0, 0, mj_u) else none) else
     (bif Nat.blt pc 33 then (bif Nat.beq pc 30 then some (.invokestatic 36, 3, 59, 0, 1054, mj_u) else none) else
      (bif Nat.beq pc 33 then some (.istore_n 1, 1, 1, 0, 0, mj_u) else none))) else
    (bif Nat.blt pc 40 then (bif Nat.blt pc 37 then (bif Nat.beq pc 34 then some (.iinc 4 1, 3, 4, 0, 0, .int 1) else none) else
      (bif Nat.beq pc 37 then some (.goto (-22), 3, 15, 0, 0, mj_u) else none)) else
     (bif Nat.blt pc 41 then (bif Nat.beq pc 40 then some (.iload_n 1, 1, 1, 0, 0, mj_u) else none) else
      (bif Nat.beq pc 41 then some (.ireturn, 1, 0, 0, 0, mj_u) else none)))))
def m_ML_least : mj_M := (146, prog_12_method_6_code, 6, (Option.some Jvm.ClassFile.FieldType.int), 9, 0, 1071, 1069, 1070, 56, 42, k_ML_least)
/-- WatershedMapModel$Land.sum()I -/
def k_ML_sum : Nat → Option mj_I := fun pc =>
  bif Nat.blt pc 16 then (bif Nat.blt pc 8 then (bif Nat.blt pc 3 then (bif Nat.blt pc 1 then (bif Nat.beq pc 0 then some (.iconst 0, 1, 0, 0, 0, .int 0) else none) else
     (bif Nat.blt pc 2 then (bif Nat.beq pc 1 then some (.istore_n 1, 1, 1, 0, 0, mj_u) else none) else
      (bif Nat.beq pc 2 then some (.aload_n 0, 1, 0, 0, 0, mj_u) else none))) else
    (bif Nat.blt pc 6 then (bif Nat.beq pc 3 then some (.getfield 18, 3, 9, 2, 895, .null) else none) else
     (bif Nat.blt pc 7 then (bif Nat.beq pc 6 then some (.astore_n 2, 1, 2, 0, 0, mj_u) else none) else
      (bif Nat.beq pc 7 then some (.aload_n 2, 1, 2, 0, 0, mj_u) else none)))) else
   (bif Nat.blt pc 11 then (bif Nat.blt pc 9 then (bif Nat.beq pc 8 then some (.arraylength, 1, 0, 0, 0, mj_u) else none) else
     (bif Nat.blt pc 10 then (bif Nat.beq pc 9 then some (.istore_n 3, 1, 3, 0, 0, mj_u) else none) else
      (bif Nat.beq pc 10 then some (.iconst 0, 1, 0, 0, 0, .int 0) else none))) else
    (bif Nat.blt pc 13 then (bif Nat.beq pc 11 then some (.istore 4, 2, 4, 0, 0, mj_u) else none) else
     (bif Nat.blt pc 15 then (bif Nat.beq pc 13 then some (.iload 4, 2, 4, 0, 0, mj_u) else none) else
      (bif Nat.beq pc 15 then some (.iload_n 3, 1, 3, 0, 0, mj_u) else none))))) else
  (bif Nat.blt pc 26 then (bif Nat.blt pc 22 then (bif Nat.blt pc 19 then (bif Nat.beq pc 16 then some (.if_icmp .ge 20, 3, 36, 0, 0, mj_u) else none) else
     (bif Nat.blt pc 20 then (bif Nat.beq pc 19 then some (.aload_n 2, 1, 2, 0, 0, mj_u) else none) else
      (bif Nat.beq pc 20 then some (.iload 4, 2, 4, 0, 0, mj_u) else none))) else
    (bif Nat.blt pc 23 then (bif Nat.beq pc 22 then some (.iaload, 1, 0, 0, 0, mj_u) else none) else
     (bif Nat.blt pc 25 then (bif Nat.beq pc 23 then some (.istore 5, 2, 5, 0, 0, mj_u) else none) else
      (bif Nat.beq pc 25 then some (.iload_n 1, 1, 1, 0, 0, mj_u) else none)))) else
   (bif Nat.blt pc 30 then (bif Nat.blt pc 28 then (bif Nat.beq pc 26 then some (.iload 5, 2, 5, 0, 0, mj_u) else none) else
     (bif Nat.blt pc 29 then (bif Nat.beq pc 28 then some (.iadd, 1, 0, 0, 0, mj_u) else none) else
      (bif Nat.beq pc 29 then some (.istore_n 1, 1, 1, 0, 0, mj_u) else none))) else
    (bif Nat.blt pc 36 then (bif Nat.blt pc 33 then (bif Nat.beq pc 30 then some (.iinc 4 1, 3, 4, 0, 0, .int 1) else none) else
      (bif Nat.beq pc 33 then some (.goto (-20), 3, 13, 0, 0, mj_u) else none)) else
     (bif Nat.blt pc 37 then (bif Nat.beq pc 36 then some (.iload_n 1, 1, 1, 0, 0, mj_u) else none) else
      (bif Nat.beq pc 37 then some (.ireturn, 1, 0, 0, 0, mj_u) else none)))))
def m_ML_sum : mj_M := (147, prog_12_method_8_code, 6, (Option.some Jvm.ClassFile.FieldType.int), 9, 0, 1075, 1073, 1074, 56, 38, k_ML_sum)
/-- WatershedMapModel.height(II)I -/
def k_M_height : Nat → Option mj_I := fun pc =>
  bif Nat.blt pc 14 then (bif Nat.blt pc 6 then (bif Nat.blt pc 2 then (bif Nat.blt pc 1 then (bif Nat.beq pc 0 then some (.aload_n 0, 1, 0, 0, 0, mj_u) else none) else
     (bif Nat.beq pc 1 then some (.iload_n 1, 1, 1, 0, 0, mj_u) else none)) else
    (bif Nat.blt pc 3 then (bif Nat.beq pc 2 then some (.iload_n 2, 1, 2, 0, 0, mj_u) else none) else
     (bif Nat.beq pc 3 then some (.invokevirtual 63, 3, 119, 0, 937, mj_u) else none))) else
   (bif Nat.blt pc 10 then (bif Nat.blt pc 9 then (bif Nat.beq pc 6 then some (.ifCond .eq 7, 3, 13, 0, 0, mj_u) else none) else
     (bif Nat.beq pc 9 then some (.iconst 0, 1, 0, 0, 0, .int 0) else none)) else
    (bif Nat.blt pc 13 then (bif Nat.beq pc 10 then some (.goto 17, 3, 27, 0, 0, mj_u) else none) else
     (bif Nat.beq pc 13 then some (.aload_n 0, 1, 0, 0, 0, mj_u) else none)))) else
  (bif Nat.blt pc 22 then (bif Nat.blt pc 20 then (bif Nat.blt pc 17 then (bif Nat.beq pc 14 then some (.getfield 23, 3, 10, 1, 905, .null) else none) else
     (bif Nat.beq pc 17 then some (.getfield 55, 3, 9, 2, 896, .null) else none)) else
    (bif Nat.blt pc 21 then (bif Nat.beq pc 20 then some (.aload_n 0, 1, 0, 0, 0, mj_u) else none) else
     (bif Nat.beq pc 21 then some (.iload_n 1, 1, 1, 0, 0, mj_u) else none))) else
   (bif Nat.blt pc 26 then (bif Nat.blt pc 23 then (bif Nat.beq pc 22 then some (.iload_n 2, 1, 2, 0, 0, mj_u) else none) else
     (bif Nat.beq pc 23 then some (.invokevirtual 66, 3, 121, 0, 945, mj_u) else none)) else
    (bif Nat.blt pc 27 then (bif Nat.beq pc 26 then some (.iaload, 1, 0, 0, 0, mj_u) else none) else
     (bif Nat.beq pc 27 then some (.ireturn, 1, 0, 0, 0, mj_u) else none))))
def m_M_height : mj_M := (148, prog_11_method_23_code, 3, (Option.some Jvm.ClassFile.FieldType.int), 10, 2, 1079, 1077, 1078, 55, 28, k_M_height)
/-- WatershedMapModel.water(III)I -/
def k_M_water : Nat → Option mj_I := fun pc =>
  bif Nat.blt pc 32 then (bif Nat.blt pc 13 then (bif Nat.blt pc 6 then (bif Nat.blt pc 2 then (bif Nat.blt pc 1 then (bif Nat.beq pc 0 then some (.aload_n 0, 1, 0, 0, 0, mj_u) else none) else
      (bif Nat.beq pc 1 then some (.iload_n 1, 1, 1, 0, 0, mj_u) else none)) else
     (bif Nat.blt pc 3 then (bif Nat.beq pc 2 then some (.iload_n 2, 1, 2, 0, 0, mj_u) else none) else
      (bif Nat.beq pc 3 then some (.invokevirtual 63, 3, 119, 0, 937, mj_u) else none))) else
    (bif Nat.blt pc 10 then (bif Nat.blt pc 9 then (bif Nat.beq pc 6 then some (.ifCond .ne 25, 3, 31, 0, 0, mj_u) else none) else
      (bif Nat.beq pc 9 then some (.aload_n 0, 1, 0, 0, 0, mj_u) else none)) else
     (bif Nat.blt pc 11 then (bif Nat.beq pc 10 then some (.iload_n 3, 1, 3, 0, 0, mj_u) else none) else
      (bif Nat.blt pc 12 then (bif Nat.beq pc 11 then some (.iconst 0, 1, 0, 0, 0, .int 0) else none) else
       (bif Nat.beq pc 12 then some (.iconst 4, 1, 0, 0, 0, .int 4) else none))))) else
   (bif Nat.blt pc 23 then (bif Nat.blt pc 19 then (bif Nat.blt pc 16 then (bif Nat.beq pc 13 then some (.invokestatic 41, 3, 115, 0, 922, mj_u) else none) else
      (bif Nat.beq pc 16 then some (.ifCond .ne 7, 3, 23, 0, 0, mj_u) else none)) else
     (bif Nat.blt pc 20 then (bif Nat.beq pc 19 then some (.iconst 1, 1, 0, 0, 0, .int 1) else none) else
      (bif Nat.beq pc 20 then some (.goto 4, 3, 24, 0, 0, mj_u) else none))) else
    (bif Nat.blt pc 25 then (bif Nat.blt pc 24 then (bif Nat.beq pc 23 then some (.iconst 0, 1, 0, 0, 0, .int 0) else none) else
      (bif Nat.beq pc 24 then some (.iconst 2, 1, 0, 0, 0, .int 2) else none)) else
     (bif Nat.blt pc 28 then (bif Nat.beq pc 25 then some (.invokevirtual 34, 3, 117, 0, 929, mj_u) else none) else
      (bif Nat.blt pc 31 then (bif Nat.beq pc 28 then some (.ifCond .eq 5, 3, 33, 0, 0, mj_u) else none) else
       (bif Nat.beq pc 31 then some (.iconst 0, 1, 0, 0, 0, .int 0) else none)))))) else
  (bif Nat.blt pc 46 then (bif Nat.blt pc 40 then (bif Nat.blt pc 34 then (bif Nat.blt pc 33 then (bif Nat.beq pc 32 then some (.ireturn, 1, 0, 0, 0, mj_u) else none) else
      (bif Nat.beq pc 33 then some (.aload_n 0, 1, 0, 0, 0, mj_u) else none)) else
     (bif Nat.blt pc 37 then (bif Nat.beq pc 34 then some (.getfield 23, 3, 10, 1, 905, .null) else none) else
      (bif Nat.beq pc 37 then some (.invokevirtual 102, 3, 136, 0, 1025, mj_u) else none))) else
    (bif Nat.blt pc 43 then (bif Nat.blt pc 42 then (bif Nat.beq pc 40 then some (.astore 4, 2, 4, 0, 0, mj_u) else none) else
      (bif Nat.beq pc 42 then some (.aload_n 0, 1, 0, 0, 0, mj_u) else none)) else
     (bif Nat.blt pc 44 then (bif Nat.beq pc 43 then some (.aload_n 0, 1, 0, 0, 0, mj_u) else none) else
      (bif Nat.blt pc 45 then (bif Nat.beq pc 44 then some (.iload_n 1, 1, 1, 0, 0, mj_u) else none) else
       (bif Nat.beq pc 45 then some (.iload_n 2, 1, 2, 0, 0, mj_u) else none))))) else
   (bif Nat.blt pc 53 then (bif Nat.blt pc 50 then (bif Nat.blt pc 49 then (bif Nat.beq pc 46 then some (.invokevirtual 66, 3, 121, 0, 945, mj_u) else none) else
      (bif Nat.beq pc 49 then some (.iload_n 3, 1, 3, 0, 0, mj_u) else none)) else
     (bif Nat.blt pc 52 then (bif Nat.beq pc 50 then some (.aload 4, 2, 4, 0, 0, mj_u) else none) else
      (bif Nat.beq pc 52 then some (.aload_n 0, 1, 0, 0, 0, mj_u) else none))) else
    (bif Nat.blt pc 58 then (bif Nat.blt pc 56 then (bif Nat.beq pc 53 then some (.getfield 23, 3, 10, 1, 905, .null) else none) else
      (bif Nat.beq pc 56 then some (.aload 4, 2, 4, 0, 0, mj_u) else none)) else
     (bif Nat.blt pc 61 then (bif Nat.beq pc 58 then some (.invokevirtual 106, 3, 139, 0, 1038, mj_u) else none) else
      (bif Nat.blt pc 64 then (bif Nat.beq pc 61 then some (.invokevirtual 139, 3, 150, 0, 1084, mj_u) else none) else
       (bif Nat.beq pc 64 then some (.ireturn, 1, 0, 0, 0, mj_u) else none))))))
def m_M_water : mj_M := (149, prog_11_method_25_code, 5, (Option.some Jvm.ClassFile.FieldType.int), 10, 3, 1083, 1081, 1082, 55, 65, k_M_water)
/-- WatershedMapModel.water(II[I[I)I -/
def k_M_water_2 : Nat → Option mj_I := fun pc =>
  bif Nat.blt pc 51 then (bif Nat.blt pc 41 then (bif Nat.blt pc 33 then (bif Nat.blt pc 1 then (bif Nat.beq pc 0 then some (.iload_n 2, 1, 2, 0, 0, mj_u) else none) else
     (bif Nat.blt pc 32 then (bif Nat.beq pc 1 then some (.tableswitch 67 0 3 #[31, 40, 45, 51], 31, 68, 0, 0, mj_u) else none) else
      (bif Nat.beq pc 32 then some (.aload_n 0, 1, 0, 0, 0, mj_u) else none))) else
    (bif Nat.blt pc 37 then (bif Nat.blt pc 36 then (bif Nat.beq pc 33 then some (.getfield 23, 3, 10, 1, 905, .null) else none) else
      (bif Nat.beq pc 36 then some (.iload_n 1, 1, 1, 0, 0, mj_u) else none)) else
     (bif Nat.blt pc 40 then (bif Nat.beq pc 37 then some (.invokevirtual 125, 3, 137, 0, 1088, mj_u) else none) else
      (bif Nat.beq pc 40 then some (.ireturn, 1, 0, 0, 0, mj_u) else none)))) else
   (bif Nat.blt pc 45 then (bif Nat.blt pc 43 then (bif Nat.beq pc 41 then some (.aload 4, 2, 4, 0, 0, mj_u) else none) else
     (bif Nat.blt pc 44 then (bif Nat.beq pc 43 then some (.iload_n 1, 1, 1, 0, 0, mj_u) else none) else
      (bif Nat.beq pc 44 then some (.iaload, 1, 0, 0, 0, mj_u) else none))) else
    (bif Nat.blt pc 47 then (bif Nat.blt pc 46 then (bif Nat.beq pc 45 then some (.ireturn, 1, 0, 0, 0, mj_u) else none) else
      (bif Nat.beq pc 46 then some (.aload_n 3, 1, 3, 0, 0, mj_u) else none)) else
     (bif Nat.blt pc 48 then (bif Nat.beq pc 47 then some (.iload_n 1, 1, 1, 0, 0, mj_u) else none) else
      (bif Nat.beq pc 48 then some (.invokestatic 128, 3, 151, 0, 1089, mj_u) else none))))) else
  (bif Nat.blt pc 63 then (bif Nat.blt pc 56 then (bif Nat.blt pc 52 then (bif Nat.beq pc 51 then some (.ireturn, 1, 0, 0, 0, mj_u) else none) else
     (bif Nat.blt pc 53 then (bif Nat.beq pc 52 then some (.aload_n 0, 1, 0, 0, 0, mj_u) else none) else
      (bif Nat.beq pc 53 then some (.getfield 23, 3, 10, 1, 905, .null) else none))) else
    (bif Nat.blt pc 59 then (bif Nat.blt pc 57 then (bif Nat.beq pc 56 then some (.aload_n 3, 1, 3, 0, 0, mj_u) else none) else
      (bif Nat.beq pc 57 then some (.aload 4, 2, 4, 0, 0, mj_u) else none)) else
     (bif Nat.blt pc 60 then (bif Nat.beq pc 59 then some (.aload_n 0, 1, 0, 0, 0, mj_u) else none) else
      (bif Nat.beq pc 60 then some (.getfield 27, 3, 10, 2, 906, .int 0) else none)))) else
   (bif Nat.blt pc 68 then (bif Nat.blt pc 64 then (bif Nat.beq pc 63 then some (.iload_n 1, 1, 1, 0, 0, mj_u) else none) else
     (bif Nat.blt pc 67 then (bif Nat.beq pc 64 then some (.invokevirtual 132, 3, 152, 0, 1092, mj_u) else none) else
      (bif Nat.beq pc 67 then some (.ireturn, 1, 0, 0, 0, mj_u) else none))) else
    (bif Nat.blt pc 70 then (bif Nat.blt pc 69 then (bif Nat.beq pc 68 then some (.aload_n 3, 1, 3, 0, 0, mj_u) else none) else
      (bif Nat.beq pc 69 then some (.iload_n 1, 1, 1, 0, 0, mj_u) else none)) else
     (bif Nat.blt pc 73 then (bif Nat.beq pc 70 then some (.invokestatic 136, 3, 153, 0, 1097, mj_u) else none) else
      (bif Nat.beq pc 73 then some (.ireturn, 1, 0, 0, 0, mj_u) else none)))))
def m_M_water_2 : mj_M := (150, prog_11_method_24_code, 5, (Option.some Jvm.ClassFile.FieldType.int), 10, 4, 1087, 1086, 33, 55, 74, k_M_water_2)
/-- WatershedMapModel$Land.end([II)I static -/
def k_ML_end : Nat → Option mj_I := fun pc =>
  bif Nat.blt pc 8 then (bif Nat.blt pc 3 then (bif Nat.blt pc 1 then (bif Nat.beq pc 0 then some (.iload_n 1, 1, 1, 0, 0, mj_u) else none) else
    (bif Nat.blt pc 2 then (bif Nat.beq pc 1 then some (.istore_n 2, 1, 2, 0, 0, mj_u) else none) else
     (bif Nat.beq pc 2 then some (.aload_n 0, 1, 0, 0, 0, mj_u) else none))) else
   (bif Nat.blt pc 4 then (bif Nat.beq pc 3 then some (.iload_n 2, 1, 2, 0, 0, mj_u) else none) else
    (bif Nat.blt pc 5 then (bif Nat.beq pc 4 then some (.iaload, 1, 0, 0, 0, mj_u) else none) else
     (bif Nat.beq pc 5 then some (.ifCond .lt 10, 3, 15, 0, 0, mj_u) else none)))) else
  (bif Nat.blt pc 11 then (bif Nat.blt pc 9 then (bif Nat.beq pc 8 then some (.aload_n 0, 1, 0, 0, 0, mj_u) else none) else
    (bif Nat.blt pc 10 then (bif Nat.beq pc 9 then some (.iload_n 2, 1, 2, 0, 0, mj_u) else none) else
     (bif Nat.beq pc 10 then some (.iaload, 1, 0, 0, 0, mj_u) else none))) else
   (bif Nat.blt pc 15 then (bif Nat.blt pc 12 then (bif Nat.beq pc 11 then some (.istore_n 2, 1, 2, 0, 0, mj_u) else none) else
     (bif Nat.beq pc 12 then some (.goto (-10), 3, 2, 0, 0, mj_u) else none)) else
    (bif Nat.blt pc 16 then (bif Nat.beq pc 15 then some (.iload_n 2, 1, 2, 0, 0, mj_u) else none) else
     (bif Nat.beq pc 16 then some (.ireturn, 1, 0, 0, 0, mj_u) else none))))
def m_ML_end : mj_M := (151, prog_12_method_13_code, 3, (Option.some Jvm.ClassFile.FieldType.int), 9, 2, 1091, 1090, 0, 56, 17, k_ML_end)
/-- WatershedMapModel$Land.rank([I[III)I -/
def k_ML_rank : Nat → Option mj_I := fun pc =>
  bif Nat.blt pc 59 then (bif Nat.blt pc 27 then (bif Nat.blt pc 11 then (bif Nat.blt pc 5 then (bif Nat.blt pc 3 then (bif Nat.blt pc 1 then (bif Nat.beq pc 0 then some (.aload_n 2, 1, 2, 0, 0, mj_u) else none) else
       (bif Nat.beq pc 1 then some (.iload 4, 2, 4, 0, 0, mj_u) else none)) else
      (bif Nat.blt pc 4 then (bif Nat.beq pc 3 then some (.iaload, 1, 0, 0, 0, mj_u) else none) else
       (bif Nat.beq pc 4 then some (.iload_n 3, 1, 3, 0, 0, mj_u) else none))) else
     (bif Nat.blt pc 9 then (bif Nat.blt pc 8 then (bif Nat.beq pc 5 then some (.if_icmp .ge 5, 3, 10, 0, 0, mj_u) else none) else
       (bif Nat.beq pc 8 then some (.iconst 0, 1, 0, 0, 0, .int 0) else none)) else
      (bif Nat.blt pc 10 then (bif Nat.beq pc 9 then some (.ireturn, 1, 0, 0, 0, mj_u) else none) else
       (bif Nat.beq pc 10 then some (.iconst 0, 1, 0, 0, 0, .int 0) else none)))) else
    (bif Nat.blt pc 17 then (bif Nat.blt pc 14 then (bif Nat.blt pc 13 then (bif Nat.beq pc 11 then some (.istore 5, 2, 5, 0, 0, mj_u) else none) else
       (bif Nat.beq pc 13 then some (.iconst 0, 1, 0, 0, 0, .int 0) else none)) else
      (bif Nat.blt pc 16 then (bif Nat.beq pc 14 then some (.istore 6, 2, 6, 0, 0, mj_u) else none) else
       (bif Nat.beq pc 16 then some (.iconst 0, 1, 0, 0, 0, .int 0) else none))) else
     (bif Nat.blt pc 21 then (bif Nat.blt pc 19 then (bif Nat.beq pc 17 then some (.istore 7, 2, 7, 0, 0, mj_u) else none) else
       (bif Nat.beq pc 19 then some (.iload 7, 2, 7, 0, 0, mj_u) else none)) else
      (bif Nat.blt pc 23 then (bif Nat.beq pc 21 then some (.bipush 8, 2, 0, 0, 0, .int 8) else none) else
       (bif Nat.blt pc 26 then (bif Nat.beq pc 23 then some (.if_icmp .ge 83, 3, 106, 0, 0, mj_u) else none) else
        (bif Nat.beq pc 26 then some (.aload_n 0, 1, 0, 0, 0, mj_u) else none)))))) else
   (bif Nat.blt pc 44 then (bif Nat.blt pc 36 then (bif Nat.blt pc 31 then (bif Nat.blt pc 29 then (bif Nat.beq pc 27 then some (.iload 4, 2, 4, 0, 0, mj_u) else none) else
       (bif Nat.beq pc 29 then some (.iload 7, 2, 7, 0, 0, mj_u) else none)) else
      (bif Nat.blt pc 34 then (bif Nat.beq pc 31 then some (.invokevirtual 53, 3, 134, 0, 1037, mj_u) else none) else
       (bif Nat.beq pc 34 then some (.istore 8, 2, 8, 0, 0, mj_u) else none))) else
     (bif Nat.blt pc 41 then (bif Nat.blt pc 38 then (bif Nat.beq pc 36 then some (.iload 8, 2, 8, 0, 0, mj_u) else none) else
       (bif Nat.beq pc 38 then some (.ifCond .lt 62, 3, 100, 0, 0, mj_u) else none)) else
      (bif Nat.blt pc 42 then (bif Nat.beq pc 41 then some (.aload_n 1, 1, 1, 0, 0, mj_u) else none) else
       (bif Nat.beq pc 42 then some (.iload 8, 2, 8, 0, 0, mj_u) else none)))) else
    (bif Nat.blt pc 53 then (bif Nat.blt pc 47 then (bif Nat.blt pc 45 then (bif Nat.beq pc 44 then some (.iaload, 1, 0, 0, 0, mj_u) else none) else
       (bif Nat.beq pc 45 then some (.iload 4, 2, 4, 0, 0, mj_u) else none)) else
      (bif Nat.blt pc 50 then (bif Nat.beq pc 47 then some (.if_icmp .eq 6, 3, 53, 0, 0, mj_u) else none) else
       (bif Nat.beq pc 50 then some (.goto 50, 3, 100, 0, 0, mj_u) else none))) else
     (bif Nat.blt pc 55 then (bif Nat.blt pc 54 then (bif Nat.beq pc 53 then some (.aload_n 0, 1, 0, 0, 0, mj_u) else none) else
       (bif Nat.beq pc 54 then some (.aload_n 1, 1, 1, 0, 0, mj_u) else none)) else
      (bif Nat.blt pc 56 then (bif Nat.beq pc 55 then some (.aload_n 2, 1, 2, 0, 0, mj_u) else none) else
       (bif Nat.blt pc 57 then (bif Nat.beq pc 56 then some (.iload_n 3, 1, 3, 0, 0, mj_u) else none) else
        (bif Nat.beq pc 57 then some (.iload 8, 2, 8, 0, 0, mj_u) else none))))))) else
  (bif Nat.blt pc 96 then (bif Nat.blt pc 79 then (bif Nat.blt pc 69 then (bif Nat.blt pc 64 then (bif Nat.blt pc 62 then (bif Nat.beq pc 59 then some (.invokevirtual 60, 3, 152, 0, 1096, mj_u) else none) else
       (bif Nat.beq pc 62 then some (.istore 9, 2, 9, 0, 0, mj_u) else none)) else
      (bif Nat.blt pc 66 then (bif Nat.beq pc 64 then some (.iload 9, 2, 9, 0, 0, mj_u) else none) else
       (bif Nat.beq pc 66 then some (.ifCond .eq 34, 3, 100, 0, 0, mj_u) else none))) else
     (bif Nat.blt pc 73 then (bif Nat.blt pc 71 then (bif Nat.beq pc 69 then some (.iload 9, 2, 9, 0, 0, mj_u) else none) else
       (bif Nat.beq pc 71 then some (.iload 5, 2, 5, 0, 0, mj_u) else none)) else
      (bif Nat.blt pc 76 then (bif Nat.beq pc 73 then some (.if_icmp .ge 6, 3, 79, 0, 0, mj_u) else none) else
       (bif Nat.beq pc 76 then some (.goto 24, 3, 100, 0, 0, mj_u) else none)))) else
    (bif Nat.blt pc 87 then (bif Nat.blt pc 83 then (bif Nat.blt pc 81 then (bif Nat.beq pc 79 then some (.iload 9, 2, 9, 0, 0, mj_u) else none) else
       (bif Nat.beq pc 81 then some (.iload 5, 2, 5, 0, 0, mj_u) else none)) else
      (bif Nat.blt pc 86 then (bif Nat.beq pc 83 then some (.if_icmp .le 7, 3, 90, 0, 0, mj_u) else none) else
       (bif Nat.beq pc 86 then some (.iconst 1, 1, 0, 0, 0, .int 1) else none))) else
     (bif Nat.blt pc 92 then (bif Nat.blt pc 90 then (bif Nat.beq pc 87 then some (.goto 7, 3, 94, 0, 0, mj_u) else none) else
       (bif Nat.beq pc 90 then some (.iload 6, 2, 6, 0, 0, mj_u) else none)) else
      (bif Nat.blt pc 93 then (bif Nat.beq pc 92 then some (.iconst 1, 1, 0, 0, 0, .int 1) else none) else
       (bif Nat.blt pc 94 then (bif Nat.beq pc 93 then some (.iadd, 1, 0, 0, 0, mj_u) else none) else
        (bif Nat.beq pc 94 then some (.istore 6, 2, 6, 0, 0, mj_u) else none)))))) else
   (bif Nat.blt pc 115 then (bif Nat.blt pc 106 then (bif Nat.blt pc 100 then (bif Nat.blt pc 98 then (bif Nat.beq pc 96 then some (.iload 9, 2, 9, 0, 0, mj_u) else none) else
       (bif Nat.beq pc 98 then some (.istore 5, 2, 5, 0, 0, mj_u) else none)) else
      (bif Nat.blt pc 103 then (bif Nat.beq pc 100 then some (.iinc 7 1, 3, 7, 0, 0, .int 1) else none) else
       (bif Nat.beq pc 103 then some (.goto (-84), 3, 19, 0, 0, mj_u) else none))) else
     (bif Nat.blt pc 111 then (bif Nat.blt pc 108 then (bif Nat.beq pc 106 then some (.iload 5, 2, 5, 0, 0, mj_u) else none) else
       (bif Nat.beq pc 108 then some (.ifCond .ne 7, 3, 115, 0, 0, mj_u) else none)) else
      (bif Nat.blt pc 112 then (bif Nat.beq pc 111 then some (.iconst 1, 1, 0, 0, 0, .int 1) else none) else
       (bif Nat.beq pc 112 then some (.goto 18, 3, 130, 0, 0, mj_u) else none)))) else
    (bif Nat.blt pc 123 then (bif Nat.blt pc 118 then (bif Nat.blt pc 117 then (bif Nat.beq pc 115 then some (.iload 6, 2, 6, 0, 0, mj_u) else none) else
       (bif Nat.beq pc 117 then some (.iconst 1, 1, 0, 0, 0, .int 1) else none)) else
      (bif Nat.blt pc 121 then (bif Nat.beq pc 118 then some (.if_icmp .le 10, 3, 128, 0, 0, mj_u) else none) else
       (bif Nat.beq pc 121 then some (.iload 5, 2, 5, 0, 0, mj_u) else none))) else
     (bif Nat.blt pc 125 then (bif Nat.blt pc 124 then (bif Nat.beq pc 123 then some (.iconst 1, 1, 0, 0, 0, .int 1) else none) else
       (bif Nat.beq pc 124 then some (.iadd, 1, 0, 0, 0, mj_u) else none)) else
      (bif Nat.blt pc 128 then (bif Nat.beq pc 125 then some (.goto 5, 3, 130, 0, 0, mj_u) else none) else
       (bif Nat.blt pc 130 then (bif Nat.beq pc 128 then some (.iload 5, 2, 5, 0, 0, mj_u) else none) else
        (bif Nat.beq pc 130 then some (.ireturn, 1, 0, 0, 0, mj_u) else none)))))))
def m_ML_rank : mj_M := (152, prog_12_method_15_code, 10, (Option.some Jvm.ClassFile.FieldType.int), 9, 4, 1095, 1093, 1094, 56, 131, k_ML_rank)
/-- WatershedMapModel$Land.steps([II)I static -/
def k_ML_steps : Nat → Option mj_I := fun pc =>
  bif Nat.blt pc 10 then (bif Nat.blt pc 4 then (bif Nat.blt pc 2 then (bif Nat.blt pc 1 then (bif Nat.beq pc 0 then some (.iconst 0, 1, 0, 0, 0, .int 0) else none) else
     (bif Nat.beq pc 1 then some (.istore_n 2, 1, 2, 0, 0, mj_u) else none)) else
    (bif Nat.blt pc 3 then (bif Nat.beq pc 2 then some (.iload_n 1, 1, 1, 0, 0, mj_u) else none) else
     (bif Nat.beq pc 3 then some (.istore_n 3, 1, 3, 0, 0, mj_u) else none))) else
   (bif Nat.blt pc 6 then (bif Nat.blt pc 5 then (bif Nat.beq pc 4 then some (.aload_n 0, 1, 0, 0, 0, mj_u) else none) else
     (bif Nat.beq pc 5 then some (.iload_n 3, 1, 3, 0, 0, mj_u) else none)) else
    (bif Nat.blt pc 7 then (bif Nat.beq pc 6 then some (.iaload, 1, 0, 0, 0, mj_u) else none) else
     (bif Nat.beq pc 7 then some (.ifCond .lt 13, 3, 20, 0, 0, mj_u) else none)))) else
  (bif Nat.blt pc 16 then (bif Nat.blt pc 14 then (bif Nat.blt pc 13 then (bif Nat.beq pc 10 then some (.iinc 2 1, 3, 2, 0, 0, .int 1) else none) else
     (bif Nat.beq pc 13 then some (.aload_n 0, 1, 0, 0, 0, mj_u) else none)) else
    (bif Nat.blt pc 15 then (bif Nat.beq pc 14 then some (.iload_n 3, 1, 3, 0, 0, mj_u) else none) else
     (bif Nat.beq pc 15 then some (.iaload, 1, 0, 0, 0, mj_u) else none))) else
   (bif Nat.blt pc 20 then (bif Nat.blt pc 17 then (bif Nat.beq pc 16 then some (.istore_n 3, 1, 3, 0, 0, mj_u) else none) else
     (bif Nat.beq pc 17 then some (.goto (-13), 3, 4, 0, 0, mj_u) else none)) else
    (bif Nat.blt pc 21 then (bif Nat.beq pc 20 then some (.iload_n 2, 1, 2, 0, 0, mj_u) else none) else
     (bif Nat.beq pc 21 then some (.ireturn, 1, 0, 0, 0, mj_u) else none))))
def m_ML_steps : mj_M := (153, prog_12_method_14_code, 4, (Option.some Jvm.ClassFile.FieldType.int), 9, 2, 1099, 1098, 0, 56, 22, k_ML_steps)
/-- WatershedMapModel.basins()I -/
def k_M_basins : Nat → Option mj_I := fun pc =>
  bif Nat.blt pc 4 then (bif Nat.blt pc 1 then (bif Nat.beq pc 0 then some (.aload_n 0, 1, 0, 0, 0, mj_u) else none) else
   (bif Nat.blt pc 2 then (bif Nat.beq pc 1 then some (.aload_n 0, 1, 0, 0, 0, mj_u) else none) else
    (bif Nat.beq pc 2 then some (.bipush 8, 2, 0, 0, 0, .int 8) else none))) else
  (bif Nat.blt pc 7 then (bif Nat.beq pc 4 then some (.invokevirtual 143, 3, 155, 0, 1104, mj_u) else none) else
   (bif Nat.blt pc 10 then (bif Nat.beq pc 7 then some (.invokevirtual 146, 3, 156, 0, 1108, mj_u) else none) else
    (bif Nat.beq pc 10 then some (.ireturn, 1, 0, 0, 0, mj_u) else none)))
def m_M_basins : mj_M := (154, prog_11_method_27_code, 1, (Option.some Jvm.ClassFile.FieldType.int), 10, 0, 1103, 1101, 1102, 55, 11, k_M_basins)
/-- WatershedMapModel.many(I)I -/
def k_M_many : Nat → Option mj_I := fun pc =>
  bif Nat.blt pc 20 then (bif Nat.blt pc 6 then (bif Nat.blt pc 3 then (bif Nat.blt pc 1 then (bif Nat.beq pc 0 then some (.iconst 0, 1, 0, 0, 0, .int 0) else none) else
     (bif Nat.blt pc 2 then (bif Nat.beq pc 1 then some (.istore_n 2, 1, 2, 0, 0, mj_u) else none) else
      (bif Nat.beq pc 2 then some (.iconst 0, 1, 0, 0, 0, .int 0) else none))) else
    (bif Nat.blt pc 4 then (bif Nat.beq pc 3 then some (.istore_n 3, 1, 3, 0, 0, mj_u) else none) else
     (bif Nat.blt pc 5 then (bif Nat.beq pc 4 then some (.iload_n 3, 1, 3, 0, 0, mj_u) else none) else
      (bif Nat.beq pc 5 then some (.aload_n 0, 1, 0, 0, 0, mj_u) else none)))) else
   (bif Nat.blt pc 15 then (bif Nat.blt pc 9 then (bif Nat.beq pc 6 then some (.getfield 23, 3, 10, 1, 905, .null) else none) else
     (bif Nat.blt pc 12 then (bif Nat.beq pc 9 then some (.invokevirtual 96, 3, 127, 0, 1012, mj_u) else none) else
      (bif Nat.beq pc 12 then some (.if_icmp .ge 29, 3, 41, 0, 0, mj_u) else none))) else
    (bif Nat.blt pc 16 then (bif Nat.beq pc 15 then some (.iload_n 2, 1, 2, 0, 0, mj_u) else none) else
     (bif Nat.blt pc 17 then (bif Nat.beq pc 16 then some (.aload_n 0, 1, 0, 0, 0, mj_u) else none) else
      (bif Nat.beq pc 17 then some (.getfield 23, 3, 10, 1, 905, .null) else none))))) else
  (bif Nat.blt pc 32 then (bif Nat.blt pc 25 then (bif Nat.blt pc 21 then (bif Nat.beq pc 20 then some (.iload_n 3, 1, 3, 0, 0, mj_u) else none) else
     (bif Nat.blt pc 24 then (bif Nat.beq pc 21 then some (.invokevirtual 125, 3, 137, 0, 1088, mj_u) else none) else
      (bif Nat.beq pc 24 then some (.iload_n 1, 1, 1, 0, 0, mj_u) else none))) else
    (bif Nat.blt pc 28 then (bif Nat.beq pc 25 then some (.if_icmp .lt 7, 3, 32, 0, 0, mj_u) else none) else
     (bif Nat.blt pc 29 then (bif Nat.beq pc 28 then some (.iconst 1, 1, 0, 0, 0, .int 1) else none) else
      (bif Nat.beq pc 29 then some (.goto 4, 3, 33, 0, 0, mj_u) else none)))) else
   (bif Nat.blt pc 35 then (bif Nat.blt pc 33 then (bif Nat.beq pc 32 then some (.iconst 0, 1, 0, 0, 0, .int 0) else none) else
     (bif Nat.blt pc 34 then (bif Nat.beq pc 33 then some (.iadd, 1, 0, 0, 0, mj_u) else none) else
      (bif Nat.beq pc 34 then some (.istore_n 2, 1, 2, 0, 0, mj_u) else none))) else
    (bif Nat.blt pc 41 then (bif Nat.blt pc 38 then (bif Nat.beq pc 35 then some (.iinc 3 1, 3, 3, 0, 0, .int 1) else none) else
      (bif Nat.beq pc 38 then some (.goto (-34), 3, 4, 0, 0, mj_u) else none)) else
     (bif Nat.blt pc 42 then (bif Nat.beq pc 41 then some (.iload_n 2, 1, 2, 0, 0, mj_u) else none) else
      (bif Nat.beq pc 42 then some (.ireturn, 1, 0, 0, 0, mj_u) else none)))))
def m_M_many : mj_M := (155, prog_11_method_26_code, 4, (Option.some Jvm.ClassFile.FieldType.int), 10, 1, 1107, 1106, 34, 55, 43, k_M_many)
/-- WatershedMapModel.plain(I)I -/
def k_M_plain : Nat → Option mj_I := fun pc =>
  bif Nat.blt pc 2 then (bif Nat.blt pc 1 then (bif Nat.beq pc 0 then some (.aload_n 0, 1, 0, 0, 0, mj_u) else none) else
   (bif Nat.beq pc 1 then some (.iconst 0, 1, 0, 0, 0, .int 0) else none)) else
  (bif Nat.blt pc 5 then (bif Nat.beq pc 2 then some (.putfield 31, 3, 10, 0, 904, .int 0) else none) else
   (bif Nat.blt pc 6 then (bif Nat.beq pc 5 then some (.iload_n 1, 1, 1, 0, 0, mj_u) else none) else
    (bif Nat.beq pc 6 then some (.ireturn, 1, 0, 0, 0, mj_u) else none)))
def m_M_plain : mj_M := (156, prog_11_method_7_code, 2, (Option.some Jvm.ClassFile.FieldType.int), 10, 1, 1111, 1110, 35, 55, 7, k_M_plain)
/-- WatershedMapModel.pits()I -/
def k_M_pits : Nat → Option mj_I := fun pc =>
  bif Nat.blt pc 4 then (bif Nat.blt pc 1 then (bif Nat.beq pc 0 then some (.aload_n 0, 1, 0, 0, 0, mj_u) else none) else
   (bif Nat.blt pc 2 then (bif Nat.beq pc 1 then some (.aload_n 0, 1, 0, 0, 0, mj_u) else none) else
    (bif Nat.beq pc 2 then some (.bipush 9, 2, 0, 0, 0, .int 9) else none))) else
  (bif Nat.blt pc 7 then (bif Nat.beq pc 4 then some (.invokevirtual 143, 3, 155, 0, 1104, mj_u) else none) else
   (bif Nat.blt pc 10 then (bif Nat.beq pc 7 then some (.invokevirtual 146, 3, 156, 0, 1108, mj_u) else none) else
    (bif Nat.beq pc 10 then some (.ireturn, 1, 0, 0, 0, mj_u) else none)))
def m_M_pits : mj_M := (157, prog_11_method_28_code, 1, (Option.some Jvm.ClassFile.FieldType.int), 10, 0, 1115, 1113, 1114, 55, 11, k_M_pits)
/-- WatershedMapModel.mostRank()I -/
def k_M_mostRank : Nat → Option mj_I := fun pc =>
  bif Nat.blt pc 2 then (bif Nat.blt pc 1 then (bif Nat.beq pc 0 then some (.aload_n 0, 1, 0, 0, 0, mj_u) else none) else
   (bif Nat.beq pc 1 then some (.aload_n 0, 1, 0, 0, 0, mj_u) else none)) else
  (bif Nat.blt pc 5 then (bif Nat.beq pc 2 then some (.invokevirtual 149, 3, 159, 0, 1120, mj_u) else none) else
   (bif Nat.blt pc 8 then (bif Nat.beq pc 5 then some (.invokevirtual 146, 3, 156, 0, 1108, mj_u) else none) else
    (bif Nat.beq pc 8 then some (.ireturn, 1, 0, 0, 0, mj_u) else none)))
def m_M_mostRank : mj_M := (158, prog_11_method_30_code, 1, (Option.some Jvm.ClassFile.FieldType.int), 10, 0, 1119, 1117, 1118, 55, 9, k_M_mostRank)
/-- WatershedMapModel.mostRankNow()I -/
def k_M_mostRankNow : Nat → Option mj_I := fun pc =>
  bif Nat.blt pc 28 then (bif Nat.blt pc 16 then (bif Nat.blt pc 8 then (bif Nat.blt pc 4 then (bif Nat.blt pc 1 then (bif Nat.beq pc 0 then some (.aload_n 0, 1, 0, 0, 0, mj_u) else none) else
      (bif Nat.beq pc 1 then some (.getfield 23, 3, 10, 1, 905, .null) else none)) else
     (bif Nat.blt pc 7 then (bif Nat.beq pc 4 then some (.invokevirtual 102, 3, 136, 0, 1025, mj_u) else none) else
      (bif Nat.beq pc 7 then some (.astore_n 1, 1, 1, 0, 0, mj_u) else none))) else
    (bif Nat.blt pc 12 then (bif Nat.blt pc 9 then (bif Nat.beq pc 8 then some (.aload_n 0, 1, 0, 0, 0, mj_u) else none) else
      (bif Nat.beq pc 9 then some (.getfield 23, 3, 10, 1, 905, .null) else none)) else
     (bif Nat.blt pc 13 then (bif Nat.beq pc 12 then some (.aload_n 1, 1, 1, 0, 0, mj_u) else none) else
      (bif Nat.beq pc 13 then some (.invokevirtual 106, 3, 139, 0, 1038, mj_u) else none)))) else
   (bif Nat.blt pc 20 then (bif Nat.blt pc 18 then (bif Nat.blt pc 17 then (bif Nat.beq pc 16 then some (.astore_n 2, 1, 2, 0, 0, mj_u) else none) else
      (bif Nat.beq pc 17 then some (.iconst 0, 1, 0, 0, 0, .int 0) else none)) else
     (bif Nat.blt pc 19 then (bif Nat.beq pc 18 then some (.istore_n 3, 1, 3, 0, 0, mj_u) else none) else
      (bif Nat.beq pc 19 then some (.iconst 0, 1, 0, 0, 0, .int 0) else none))) else
    (bif Nat.blt pc 24 then (bif Nat.blt pc 22 then (bif Nat.beq pc 20 then some (.istore 4, 2, 4, 0, 0, mj_u) else none) else
      (bif Nat.beq pc 22 then some (.iload 4, 2, 4, 0, 0, mj_u) else none)) else
     (bif Nat.blt pc 25 then (bif Nat.beq pc 24 then some (.aload_n 0, 1, 0, 0, 0, mj_u) else none) else
      (bif Nat.beq pc 25 then some (.getfield 23, 3, 10, 1, 905, .null) else none))))) else
  (bif Nat.blt pc 42 then (bif Nat.blt pc 36 then (bif Nat.blt pc 34 then (bif Nat.blt pc 31 then (bif Nat.beq pc 28 then some (.invokevirtual 96, 3, 127, 0, 1012, mj_u) else none) else
      (bif Nat.beq pc 31 then some (.if_icmp .ge 29, 3, 60, 0, 0, mj_u) else none)) else
     (bif Nat.blt pc 35 then (bif Nat.beq pc 34 then some (.iload_n 3, 1, 3, 0, 0, mj_u) else none) else
      (bif Nat.beq pc 35 then some (.aload_n 0, 1, 0, 0, 0, mj_u) else none))) else
    (bif Nat.blt pc 40 then (bif Nat.blt pc 39 then (bif Nat.beq pc 36 then some (.getfield 23, 3, 10, 1, 905, .null) else none) else
      (bif Nat.beq pc 39 then some (.aload_n 1, 1, 1, 0, 0, mj_u) else none)) else
     (bif Nat.blt pc 41 then (bif Nat.beq pc 40 then some (.aload_n 2, 1, 2, 0, 0, mj_u) else none) else
      (bif Nat.beq pc 41 then some (.aload_n 0, 1, 0, 0, 0, mj_u) else none)))) else
   (bif Nat.blt pc 53 then (bif Nat.blt pc 47 then (bif Nat.blt pc 45 then (bif Nat.beq pc 42 then some (.getfield 27, 3, 10, 2, 906, .int 0) else none) else
      (bif Nat.beq pc 45 then some (.iload 4, 2, 4, 0, 0, mj_u) else none)) else
     (bif Nat.blt pc 50 then (bif Nat.beq pc 47 then some (.invokevirtual 132, 3, 152, 0, 1092, mj_u) else none) else
      (bif Nat.beq pc 50 then some (.invokestatic 9, 3, 26, 0, 972, mj_u) else none))) else
    (bif Nat.blt pc 57 then (bif Nat.blt pc 54 then (bif Nat.beq pc 53 then some (.istore_n 3, 1, 3, 0, 0, mj_u) else none) else
      (bif Nat.beq pc 54 then some (.iinc 4 1, 3, 4, 0, 0, .int 1) else none)) else
     (bif Nat.blt pc 60 then (bif Nat.beq pc 57 then some (.goto (-35), 3, 22, 0, 0, mj_u) else none) else
      (bif Nat.blt pc 61 then (bif Nat.beq pc 60 then some (.iload_n 3, 1, 3, 0, 0, mj_u) else none) else
       (bif Nat.beq pc 61 then some (.ireturn, 1, 0, 0, 0, mj_u) else none))))))
def m_M_mostRankNow : mj_M := (159, prog_11_method_29_code, 5, (Option.some Jvm.ClassFile.FieldType.int), 10, 0, 1123, 1122, 36, 55, 62, k_M_mostRankNow)
/-- WatershedMapModel.longestStream()I -/
def k_M_longestStream : Nat → Option mj_I := fun pc =>
  bif Nat.blt pc 2 then (bif Nat.blt pc 1 then (bif Nat.beq pc 0 then some (.aload_n 0, 1, 0, 0, 0, mj_u) else none) else
   (bif Nat.beq pc 1 then some (.aload_n 0, 1, 0, 0, 0, mj_u) else none)) else
  (bif Nat.blt pc 5 then (bif Nat.beq pc 2 then some (.invokevirtual 152, 3, 161, 0, 1128, mj_u) else none) else
   (bif Nat.blt pc 8 then (bif Nat.beq pc 5 then some (.invokevirtual 146, 3, 156, 0, 1108, mj_u) else none) else
    (bif Nat.beq pc 8 then some (.ireturn, 1, 0, 0, 0, mj_u) else none)))
def m_M_longestStream : mj_M := (160, prog_11_method_32_code, 1, (Option.some Jvm.ClassFile.FieldType.int), 10, 0, 1127, 1125, 1126, 55, 9, k_M_longestStream)
/-- WatershedMapModel.longestNow()I -/
def k_M_longestNow : Nat → Option mj_I := fun pc =>
  bif Nat.blt pc 34 then (bif Nat.blt pc 17 then (bif Nat.blt pc 8 then (bif Nat.blt pc 4 then (bif Nat.blt pc 1 then (bif Nat.beq pc 0 then some (.aload_n 0, 1, 0, 0, 0, mj_u) else none) else
      (bif Nat.beq pc 1 then some (.getfield 23, 3, 10, 1, 905, .null) else none)) else
     (bif Nat.blt pc 7 then (bif Nat.beq pc 4 then some (.invokevirtual 102, 3, 136, 0, 1025, mj_u) else none) else
      (bif Nat.beq pc 7 then some (.astore_n 1, 1, 1, 0, 0, mj_u) else none))) else
    (bif Nat.blt pc 12 then (bif Nat.blt pc 9 then (bif Nat.beq pc 8 then some (.aload_n 0, 1, 0, 0, 0, mj_u) else none) else
      (bif Nat.beq pc 9 then some (.getfield 23, 3, 10, 1, 905, .null) else none)) else
     (bif Nat.blt pc 13 then (bif Nat.beq pc 12 then some (.aload_n 1, 1, 1, 0, 0, mj_u) else none) else
      (bif Nat.blt pc 16 then (bif Nat.beq pc 13 then some (.invokevirtual 106, 3, 139, 0, 1038, mj_u) else none) else
       (bif Nat.beq pc 16 then some (.astore_n 2, 1, 2, 0, 0, mj_u) else none))))) else
   (bif Nat.blt pc 22 then (bif Nat.blt pc 19 then (bif Nat.blt pc 18 then (bif Nat.beq pc 17 then some (.iconst 0, 1, 0, 0, 0, .int 0) else none) else
      (bif Nat.beq pc 18 then some (.istore_n 3, 1, 3, 0, 0, mj_u) else none)) else
     (bif Nat.blt pc 20 then (bif Nat.beq pc 19 then some (.iconst 0, 1, 0, 0, 0, .int 0) else none) else
      (bif Nat.beq pc 20 then some (.istore 4, 2, 4, 0, 0, mj_u) else none))) else
    (bif Nat.blt pc 25 then (bif Nat.blt pc 24 then (bif Nat.beq pc 22 then some (.iload 4, 2, 4, 0, 0, mj_u) else none) else
      (bif Nat.beq pc 24 then some (.aload_n 0, 1, 0, 0, 0, mj_u) else none)) else
     (bif Nat.blt pc 28 then (bif Nat.beq pc 25 then some (.getfield 23, 3, 10, 1, 905, .null) else none) else
      (bif Nat.blt pc 31 then (bif Nat.beq pc 28 then some (.invokevirtual 96, 3, 127, 0, 1012, mj_u) else none) else
       (bif Nat.beq pc 31 then some (.if_icmp .ge 33, 3, 64, 0, 0, mj_u) else none)))))) else
  (bif Nat.blt pc 49 then (bif Nat.blt pc 39 then (bif Nat.blt pc 37 then (bif Nat.blt pc 35 then (bif Nat.beq pc 34 then some (.aload_n 2, 1, 2, 0, 0, mj_u) else none) else
      (bif Nat.beq pc 35 then some (.iload 4, 2, 4, 0, 0, mj_u) else none)) else
     (bif Nat.blt pc 38 then (bif Nat.beq pc 37 then some (.iaload, 1, 0, 0, 0, mj_u) else none) else
      (bif Nat.beq pc 38 then some (.aload_n 0, 1, 0, 0, 0, mj_u) else none))) else
    (bif Nat.blt pc 45 then (bif Nat.blt pc 42 then (bif Nat.beq pc 39 then some (.getfield 27, 3, 10, 2, 906, .int 0) else none) else
      (bif Nat.beq pc 42 then some (.if_icmp .lt 16, 3, 58, 0, 0, mj_u) else none)) else
     (bif Nat.blt pc 46 then (bif Nat.beq pc 45 then some (.iload_n 3, 1, 3, 0, 0, mj_u) else none) else
      (bif Nat.blt pc 47 then (bif Nat.beq pc 46 then some (.aload_n 1, 1, 1, 0, 0, mj_u) else none) else
       (bif Nat.beq pc 47 then some (.iload 4, 2, 4, 0, 0, mj_u) else none))))) else
   (bif Nat.blt pc 57 then (bif Nat.blt pc 53 then (bif Nat.blt pc 52 then (bif Nat.beq pc 49 then some (.invokestatic 136, 3, 153, 0, 1097, mj_u) else none) else
      (bif Nat.beq pc 52 then some (.iconst 1, 1, 0, 0, 0, .int 1) else none)) else
     (bif Nat.blt pc 54 then (bif Nat.beq pc 53 then some (.iadd, 1, 0, 0, 0, mj_u) else none) else
      (bif Nat.beq pc 54 then some (.invokestatic 9, 3, 26, 0, 972, mj_u) else none))) else
    (bif Nat.blt pc 61 then (bif Nat.blt pc 58 then (bif Nat.beq pc 57 then some (.istore_n 3, 1, 3, 0, 0, mj_u) else none) else
      (bif Nat.beq pc 58 then some (.iinc 4 1, 3, 4, 0, 0, .int 1) else none)) else
     (bif Nat.blt pc 64 then (bif Nat.beq pc 61 then some (.goto (-39), 3, 22, 0, 0, mj_u) else none) else
      (bif Nat.blt pc 65 then (bif Nat.beq pc 64 then some (.iload_n 3, 1, 3, 0, 0, mj_u) else none) else
       (bif Nat.beq pc 65 then some (.ireturn, 1, 0, 0, 0, mj_u) else none))))))
def m_M_longestNow : mj_M := (161, prog_11_method_31_code, 5, (Option.some Jvm.ClassFile.FieldType.int), 10, 0, 1131, 1130, 37, 55, 66, k_M_longestNow)
/-- WatershedMapModel.level(II)I -/
def k_M_level : Nat → Option mj_I := fun pc =>
  bif Nat.blt pc 14 then (bif Nat.blt pc 6 then (bif Nat.blt pc 2 then (bif Nat.blt pc 1 then (bif Nat.beq pc 0 then some (.aload_n 0, 1, 0, 0, 0, mj_u) else none) else
     (bif Nat.beq pc 1 then some (.iload_n 1, 1, 1, 0, 0, mj_u) else none)) else
    (bif Nat.blt pc 3 then (bif Nat.beq pc 2 then some (.iload_n 2, 1, 2, 0, 0, mj_u) else none) else
     (bif Nat.beq pc 3 then some (.invokevirtual 63, 3, 119, 0, 937, mj_u) else none))) else
   (bif Nat.blt pc 10 then (bif Nat.blt pc 9 then (bif Nat.beq pc 6 then some (.ifCond .eq 7, 3, 13, 0, 0, mj_u) else none) else
     (bif Nat.beq pc 9 then some (.iconst 0, 1, 0, 0, 0, .int 0) else none)) else
    (bif Nat.blt pc 13 then (bif Nat.beq pc 10 then some (.goto 17, 3, 27, 0, 0, mj_u) else none) else
     (bif Nat.beq pc 13 then some (.aload_n 0, 1, 0, 0, 0, mj_u) else none)))) else
  (bif Nat.blt pc 22 then (bif Nat.blt pc 20 then (bif Nat.blt pc 17 then (bif Nat.beq pc 14 then some (.getfield 23, 3, 10, 1, 905, .null) else none) else
     (bif Nat.beq pc 17 then some (.invokevirtual 113, 3, 142, 0, 1055, mj_u) else none)) else
    (bif Nat.blt pc 21 then (bif Nat.beq pc 20 then some (.aload_n 0, 1, 0, 0, 0, mj_u) else none) else
     (bif Nat.beq pc 21 then some (.iload_n 1, 1, 1, 0, 0, mj_u) else none))) else
   (bif Nat.blt pc 26 then (bif Nat.blt pc 23 then (bif Nat.beq pc 22 then some (.iload_n 2, 1, 2, 0, 0, mj_u) else none) else
     (bif Nat.beq pc 23 then some (.invokevirtual 66, 3, 121, 0, 945, mj_u) else none)) else
    (bif Nat.blt pc 27 then (bif Nat.beq pc 26 then some (.iaload, 1, 0, 0, 0, mj_u) else none) else
     (bif Nat.beq pc 27 then some (.ireturn, 1, 0, 0, 0, mj_u) else none))))
def m_M_level : mj_M := (162, prog_11_method_33_code, 3, (Option.some Jvm.ClassFile.FieldType.int), 10, 2, 1135, 1133, 1134, 55, 28, k_M_level)
/-- WatershedMapModel.lakes()I -/
def k_M_lakes : Nat → Option mj_I := fun pc =>
  bif Nat.blt pc 2 then (bif Nat.blt pc 1 then (bif Nat.beq pc 0 then some (.aload_n 0, 1, 0, 0, 0, mj_u) else none) else
   (bif Nat.beq pc 1 then some (.aload_n 0, 1, 0, 0, 0, mj_u) else none)) else
  (bif Nat.blt pc 5 then (bif Nat.beq pc 2 then some (.invokevirtual 158, 3, 164, 0, 1140, mj_u) else none) else
   (bif Nat.blt pc 8 then (bif Nat.beq pc 5 then some (.invokevirtual 146, 3, 156, 0, 1108, mj_u) else none) else
    (bif Nat.beq pc 8 then some (.ireturn, 1, 0, 0, 0, mj_u) else none)))
def m_M_lakes : mj_M := (163, prog_11_method_35_code, 1, (Option.some Jvm.ClassFile.FieldType.int), 10, 0, 1139, 1137, 1138, 55, 9, k_M_lakes)
/-- WatershedMapModel.lakesNow()I -/
def k_M_lakesNow : Nat → Option mj_I := fun pc =>
  bif Nat.blt pc 19 then (bif Nat.blt pc 10 then (bif Nat.blt pc 7 then (bif Nat.blt pc 1 then (bif Nat.beq pc 0 then some (.aload_n 0, 1, 0, 0, 0, mj_u) else none) else
     (bif Nat.blt pc 4 then (bif Nat.beq pc 1 then some (.getfield 23, 3, 10, 1, 905, .null) else none) else
      (bif Nat.beq pc 4 then some (.invokevirtual 155, 3, 165, 0, 1144, mj_u) else none))) else
    (bif Nat.blt pc 8 then (bif Nat.beq pc 7 then some (.astore_n 1, 1, 1, 0, 0, mj_u) else none) else
     (bif Nat.blt pc 9 then (bif Nat.beq pc 8 then some (.iconst 0, 1, 0, 0, 0, .int 0) else none) else
      (bif Nat.beq pc 9 then some (.istore_n 2, 1, 2, 0, 0, mj_u) else none)))) else
   (bif Nat.blt pc 13 then (bif Nat.blt pc 11 then (bif Nat.beq pc 10 then some (.iconst 0, 1, 0, 0, 0, .int 0) else none) else
     (bif Nat.blt pc 12 then (bif Nat.beq pc 11 then some (.istore_n 3, 1, 3, 0, 0, mj_u) else none) else
      (bif Nat.beq pc 12 then some (.iload_n 3, 1, 3, 0, 0, mj_u) else none))) else
    (bif Nat.blt pc 15 then (bif Nat.blt pc 14 then (bif Nat.beq pc 13 then some (.aload_n 1, 1, 1, 0, 0, mj_u) else none) else
      (bif Nat.beq pc 14 then some (.arraylength, 1, 0, 0, 0, mj_u) else none)) else
     (bif Nat.blt pc 18 then (bif Nat.beq pc 15 then some (.if_icmp .ge 24, 3, 39, 0, 0, mj_u) else none) else
      (bif Nat.beq pc 18 then some (.iload_n 2, 1, 2, 0, 0, mj_u) else none))))) else
  (bif Nat.blt pc 30 then (bif Nat.blt pc 22 then (bif Nat.blt pc 20 then (bif Nat.beq pc 19 then some (.aload_n 1, 1, 1, 0, 0, mj_u) else none) else
     (bif Nat.blt pc 21 then (bif Nat.beq pc 20 then some (.iload_n 3, 1, 3, 0, 0, mj_u) else none) else
      (bif Nat.beq pc 21 then some (.iaload, 1, 0, 0, 0, mj_u) else none))) else
    (bif Nat.blt pc 26 then (bif Nat.blt pc 23 then (bif Nat.beq pc 22 then some (.iload_n 3, 1, 3, 0, 0, mj_u) else none) else
      (bif Nat.beq pc 23 then some (.if_icmp .ne 7, 3, 30, 0, 0, mj_u) else none)) else
     (bif Nat.blt pc 27 then (bif Nat.beq pc 26 then some (.iconst 1, 1, 0, 0, 0, .int 1) else none) else
      (bif Nat.beq pc 27 then some (.goto 4, 3, 31, 0, 0, mj_u) else none)))) else
   (bif Nat.blt pc 33 then (bif Nat.blt pc 31 then (bif Nat.beq pc 30 then some (.iconst 0, 1, 0, 0, 0, .int 0) else none) else
     (bif Nat.blt pc 32 then (bif Nat.beq pc 31 then some (.iadd, 1, 0, 0, 0, mj_u) else none) else
      (bif Nat.beq pc 32 then some (.istore_n 2, 1, 2, 0, 0, mj_u) else none))) else
    (bif Nat.blt pc 39 then (bif Nat.blt pc 36 then (bif Nat.beq pc 33 then some (.iinc 3 1, 3, 3, 0, 0, .int 1) else none) else
      (bif Nat.beq pc 36 then some (.goto (-24), 3, 12, 0, 0, mj_u) else none)) else
     (bif Nat.blt pc 40 then (bif Nat.beq pc 39 then some (.iload_n 2, 1, 2, 0, 0, mj_u) else none) else
      (bif Nat.beq pc 40 then some (.ireturn, 1, 0, 0, 0, mj_u) else none)))))
def m_M_lakesNow : mj_M := (164, prog_11_method_34_code, 4, (Option.some Jvm.ClassFile.FieldType.int), 10, 0, 1143, 1142, 38, 55, 41, k_M_lakesNow)
/-- WatershedMapModel$Land.lakes()[I -/
def k_ML_lakes : Nat → Option mj_I := fun pc =>
  bif Nat.blt pc 69 then (bif Nat.blt pc 32 then (bif Nat.blt pc 15 then (bif Nat.blt pc 9 then (bif Nat.blt pc 4 then (bif Nat.blt pc 1 then (bif Nat.beq pc 0 then some (.aload_n 0, 1, 0, 0, 0, mj_u) else none) else
       (bif Nat.beq pc 1 then some (.invokevirtual 64, 3, 142, 0, 1050, mj_u) else none)) else
      (bif Nat.blt pc 5 then (bif Nat.beq pc 4 then some (.astore_n 1, 1, 1, 0, 0, mj_u) else none) else
       (bif Nat.blt pc 6 then (bif Nat.beq pc 5 then some (.aload_n 0, 1, 0, 0, 0, mj_u) else none) else
        (bif Nat.beq pc 6 then some (.invokevirtual 45, 3, 127, 0, 981, mj_u) else none)))) else
     (bif Nat.blt pc 12 then (bif Nat.blt pc 11 then (bif Nat.beq pc 9 then some (.newarray .int, 2, 0, 0, 0, mj_u) else none) else
       (bif Nat.beq pc 11 then some (.astore_n 2, 1, 2, 0, 0, mj_u) else none)) else
      (bif Nat.blt pc 13 then (bif Nat.beq pc 12 then some (.iconst 0, 1, 0, 0, 0, .int 0) else none) else
       (bif Nat.blt pc 14 then (bif Nat.beq pc 13 then some (.istore_n 3, 1, 3, 0, 0, mj_u) else none) else
        (bif Nat.beq pc 14 then some (.iload_n 3, 1, 3, 0, 0, mj_u) else none))))) else
    (bif Nat.blt pc 24 then (bif Nat.blt pc 19 then (bif Nat.blt pc 16 then (bif Nat.beq pc 15 then some (.aload_n 0, 1, 0, 0, 0, mj_u) else none) else
       (bif Nat.beq pc 16 then some (.invokevirtual 45, 3, 127, 0, 981, mj_u) else none)) else
      (bif Nat.blt pc 22 then (bif Nat.beq pc 19 then some (.if_icmp .ge 29, 3, 48, 0, 0, mj_u) else none) else
       (bif Nat.blt pc 23 then (bif Nat.beq pc 22 then some (.aload_n 2, 1, 2, 0, 0, mj_u) else none) else
        (bif Nat.beq pc 23 then some (.iload_n 3, 1, 3, 0, 0, mj_u) else none)))) else
     (bif Nat.blt pc 27 then (bif Nat.blt pc 25 then (bif Nat.beq pc 24 then some (.aload_n 1, 1, 1, 0, 0, mj_u) else none) else
       (bif Nat.blt pc 26 then (bif Nat.beq pc 25 then some (.iload_n 3, 1, 3, 0, 0, mj_u) else none) else
        (bif Nat.beq pc 26 then some (.iaload, 1, 0, 0, 0, mj_u) else none))) else
      (bif Nat.blt pc 28 then (bif Nat.beq pc 27 then some (.aload_n 0, 1, 0, 0, 0, mj_u) else none) else
       (bif Nat.blt pc 31 then (bif Nat.beq pc 28 then some (.getfield 18, 3, 9, 2, 895, .null) else none) else
        (bif Nat.beq pc 31 then some (.iload_n 3, 1, 3, 0, 0, mj_u) else none)))))) else
   (bif Nat.blt pc 50 then (bif Nat.blt pc 41 then (bif Nat.blt pc 36 then (bif Nat.blt pc 33 then (bif Nat.beq pc 32 then some (.iaload, 1, 0, 0, 0, mj_u) else none) else
       (bif Nat.beq pc 33 then some (.if_icmp .le 7, 3, 40, 0, 0, mj_u) else none)) else
      (bif Nat.blt pc 37 then (bif Nat.beq pc 36 then some (.iload_n 3, 1, 3, 0, 0, mj_u) else none) else
       (bif Nat.blt pc 40 then (bif Nat.beq pc 37 then some (.goto 4, 3, 41, 0, 0, mj_u) else none) else
        (bif Nat.beq pc 40 then some (.iconst (-1), 1, 0, 0, 0, .int (-1)) else none)))) else
     (bif Nat.blt pc 45 then (bif Nat.blt pc 42 then (bif Nat.beq pc 41 then some (.iastore, 1, 0, 0, 0, mj_u) else none) else
       (bif Nat.beq pc 42 then some (.iinc 3 1, 3, 3, 0, 0, .int 1) else none)) else
      (bif Nat.blt pc 48 then (bif Nat.beq pc 45 then some (.goto (-31), 3, 14, 0, 0, mj_u) else none) else
       (bif Nat.blt pc 49 then (bif Nat.beq pc 48 then some (.iconst 1, 1, 0, 0, 0, .int 1) else none) else
        (bif Nat.beq pc 49 then some (.istore_n 3, 1, 3, 0, 0, mj_u) else none))))) else
    (bif Nat.blt pc 57 then (bif Nat.blt pc 54 then (bif Nat.blt pc 51 then (bif Nat.beq pc 50 then some (.iload_n 3, 1, 3, 0, 0, mj_u) else none) else
       (bif Nat.beq pc 51 then some (.ifCond .eq 95, 3, 146, 0, 0, mj_u) else none)) else
      (bif Nat.blt pc 55 then (bif Nat.beq pc 54 then some (.iconst 0, 1, 0, 0, 0, .int 0) else none) else
       (bif Nat.blt pc 56 then (bif Nat.beq pc 55 then some (.istore_n 3, 1, 3, 0, 0, mj_u) else none) else
        (bif Nat.beq pc 56 then some (.iconst 0, 1, 0, 0, 0, .int 0) else none)))) else
     (bif Nat.blt pc 62 then (bif Nat.blt pc 59 then (bif Nat.beq pc 57 then some (.istore 4, 2, 4, 0, 0, mj_u) else none) else
       (bif Nat.blt pc 61 then (bif Nat.beq pc 59 then some (.iload 4, 2, 4, 0, 0, mj_u) else none) else
        (bif Nat.beq pc 61 then some (.aload_n 0, 1, 0, 0, 0, mj_u) else none))) else
      (bif Nat.blt pc 65 then (bif Nat.beq pc 62 then some (.invokevirtual 45, 3, 127, 0, 981, mj_u) else none) else
       (bif Nat.blt pc 68 then (bif Nat.beq pc 65 then some (.if_icmp .ge 78, 3, 143, 0, 0, mj_u) else none) else
        (bif Nat.beq pc 68 then some (.iconst 0, 1, 0, 0, 0, .int 0) else none))))))) else
  (bif Nat.blt pc 110 then (bif Nat.blt pc 88 then (bif Nat.blt pc 79 then (bif Nat.blt pc 73 then (bif Nat.blt pc 71 then (bif Nat.beq pc 69 then some (.istore 5, 2, 5, 0, 0, mj_u) else none) else
       (bif Nat.beq pc 71 then some (.iload 5, 2, 5, 0, 0, mj_u) else none)) else
      (bif Nat.blt pc 75 then (bif Nat.beq pc 73 then some (.bipush 8, 2, 0, 0, 0, .int 8) else none) else
       (bif Nat.blt pc 78 then (bif Nat.beq pc 75 then some (.if_icmp .ge 62, 3, 137, 0, 0, mj_u) else none) else
        (bif Nat.beq pc 78 then some (.aload_n 2, 1, 2, 0, 0, mj_u) else none)))) else
     (bif Nat.blt pc 82 then (bif Nat.blt pc 81 then (bif Nat.beq pc 79 then some (.iload 4, 2, 4, 0, 0, mj_u) else none) else
       (bif Nat.beq pc 81 then some (.iaload, 1, 0, 0, 0, mj_u) else none)) else
      (bif Nat.blt pc 85 then (bif Nat.beq pc 82 then some (.ifCond .lt 55, 3, 137, 0, 0, mj_u) else none) else
       (bif Nat.blt pc 86 then (bif Nat.beq pc 85 then some (.aload_n 0, 1, 0, 0, 0, mj_u) else none) else
        (bif Nat.beq pc 86 then some (.iload 4, 2, 4, 0, 0, mj_u) else none))))) else
    (bif Nat.blt pc 100 then (bif Nat.blt pc 93 then (bif Nat.blt pc 90 then (bif Nat.beq pc 88 then some (.iload 5, 2, 5, 0, 0, mj_u) else none) else
       (bif Nat.beq pc 90 then some (.invokevirtual 53, 3, 134, 0, 1037, mj_u) else none)) else
      (bif Nat.blt pc 95 then (bif Nat.beq pc 93 then some (.istore 6, 2, 6, 0, 0, mj_u) else none) else
       (bif Nat.blt pc 97 then (bif Nat.beq pc 95 then some (.iload 6, 2, 6, 0, 0, mj_u) else none) else
        (bif Nat.beq pc 97 then some (.ifCond .lt 34, 3, 131, 0, 0, mj_u) else none)))) else
     (bif Nat.blt pc 104 then (bif Nat.blt pc 101 then (bif Nat.beq pc 100 then some (.aload_n 2, 1, 2, 0, 0, mj_u) else none) else
       (bif Nat.blt pc 103 then (bif Nat.beq pc 101 then some (.iload 6, 2, 6, 0, 0, mj_u) else none) else
        (bif Nat.beq pc 103 then some (.iaload, 1, 0, 0, 0, mj_u) else none))) else
      (bif Nat.blt pc 107 then (bif Nat.beq pc 104 then some (.ifCond .lt 27, 3, 131, 0, 0, mj_u) else none) else
       (bif Nat.blt pc 108 then (bif Nat.beq pc 107 then some (.aload_n 2, 1, 2, 0, 0, mj_u) else none) else
        (bif Nat.beq pc 108 then some (.iload 6, 2, 6, 0, 0, mj_u) else none)))))) else
   (bif Nat.blt pc 127 then (bif Nat.blt pc 118 then (bif Nat.blt pc 112 then (bif Nat.blt pc 111 then (bif Nat.beq pc 110 then some (.iaload, 1, 0, 0, 0, mj_u) else none) else
       (bif Nat.beq pc 111 then some (.aload_n 2, 1, 2, 0, 0, mj_u) else none)) else
      (bif Nat.blt pc 114 then (bif Nat.beq pc 112 then some (.iload 4, 2, 4, 0, 0, mj_u) else none) else
       (bif Nat.blt pc 115 then (bif Nat.beq pc 114 then some (.iaload, 1, 0, 0, 0, mj_u) else none) else
        (bif Nat.beq pc 115 then some (.if_icmp .lt 6, 3, 121, 0, 0, mj_u) else none)))) else
     (bif Nat.blt pc 122 then (bif Nat.blt pc 121 then (bif Nat.beq pc 118 then some (.goto 13, 3, 131, 0, 0, mj_u) else none) else
       (bif Nat.beq pc 121 then some (.aload_n 2, 1, 2, 0, 0, mj_u) else none)) else
      (bif Nat.blt pc 124 then (bif Nat.beq pc 122 then some (.iload 4, 2, 4, 0, 0, mj_u) else none) else
       (bif Nat.blt pc 125 then (bif Nat.beq pc 124 then some (.aload_n 2, 1, 2, 0, 0, mj_u) else none) else
        (bif Nat.beq pc 125 then some (.iload 6, 2, 6, 0, 0, mj_u) else none))))) else
    (bif Nat.blt pc 134 then (bif Nat.blt pc 129 then (bif Nat.blt pc 128 then (bif Nat.beq pc 127 then some (.iaload, 1, 0, 0, 0, mj_u) else none) else
       (bif Nat.beq pc 128 then some (.iastore, 1, 0, 0, 0, mj_u) else none)) else
      (bif Nat.blt pc 130 then (bif Nat.beq pc 129 then some (.iconst 1, 1, 0, 0, 0, .int 1) else none) else
       (bif Nat.blt pc 131 then (bif Nat.beq pc 130 then some (.istore_n 3, 1, 3, 0, 0, mj_u) else none) else
        (bif Nat.beq pc 131 then some (.iinc 5 2, 3, 5, 0, 0, .int 2) else none)))) else
     (bif Nat.blt pc 143 then (bif Nat.blt pc 137 then (bif Nat.beq pc 134 then some (.goto (-63), 3, 71, 0, 0, mj_u) else none) else
       (bif Nat.blt pc 140 then (bif Nat.beq pc 137 then some (.iinc 4 1, 3, 4, 0, 0, .int 1) else none) else
        (bif Nat.beq pc 140 then some (.goto (-81), 3, 59, 0, 0, mj_u) else none))) else
      (bif Nat.blt pc 146 then (bif Nat.beq pc 143 then some (.goto (-93), 3, 50, 0, 0, mj_u) else none) else
       (bif Nat.blt pc 147 then (bif Nat.beq pc 146 then some (.aload_n 2, 1, 2, 0, 0, mj_u) else none) else
        (bif Nat.beq pc 147 then some (.areturn, 1, 0, 0, 0, mj_u) else none)))))))
def m_ML_lakes : mj_M := (165, prog_12_method_18_code, 7, (Option.some (Jvm.ClassFile.FieldType.array Jvm.ClassFile.FieldType.int)), 9, 0, 1147, 1145, 1146, 56, 148, k_ML_lakes)
/-- WatershedMapModel.lake(III)I -/
def k_M_lake : Nat → Option mj_I := fun pc =>
  bif Nat.blt pc 62 then (bif Nat.blt pc 31 then (bif Nat.blt pc 12 then (bif Nat.blt pc 6 then (bif Nat.blt pc 2 then (bif Nat.blt pc 1 then (bif Nat.beq pc 0 then some (.aload_n 0, 1, 0, 0, 0, mj_u) else none) else
       (bif Nat.beq pc 1 then some (.iload_n 1, 1, 1, 0, 0, mj_u) else none)) else
      (bif Nat.blt pc 3 then (bif Nat.beq pc 2 then some (.iload_n 2, 1, 2, 0, 0, mj_u) else none) else
       (bif Nat.beq pc 3 then some (.invokevirtual 63, 3, 119, 0, 937, mj_u) else none))) else
     (bif Nat.blt pc 10 then (bif Nat.blt pc 9 then (bif Nat.beq pc 6 then some (.ifCond .ne 25, 3, 31, 0, 0, mj_u) else none) else
       (bif Nat.beq pc 9 then some (.aload_n 0, 1, 0, 0, 0, mj_u) else none)) else
      (bif Nat.blt pc 11 then (bif Nat.beq pc 10 then some (.iload_n 3, 1, 3, 0, 0, mj_u) else none) else
       (bif Nat.beq pc 11 then some (.iconst 0, 1, 0, 0, 0, .int 0) else none)))) else
    (bif Nat.blt pc 20 then (bif Nat.blt pc 16 then (bif Nat.blt pc 13 then (bif Nat.beq pc 12 then some (.iconst 1, 1, 0, 0, 0, .int 1) else none) else
       (bif Nat.beq pc 13 then some (.invokestatic 41, 3, 115, 0, 922, mj_u) else none)) else
      (bif Nat.blt pc 19 then (bif Nat.beq pc 16 then some (.ifCond .ne 7, 3, 23, 0, 0, mj_u) else none) else
       (bif Nat.beq pc 19 then some (.iconst 1, 1, 0, 0, 0, .int 1) else none))) else
     (bif Nat.blt pc 24 then (bif Nat.blt pc 23 then (bif Nat.beq pc 20 then some (.goto 4, 3, 24, 0, 0, mj_u) else none) else
       (bif Nat.beq pc 23 then some (.iconst 0, 1, 0, 0, 0, .int 0) else none)) else
      (bif Nat.blt pc 25 then (bif Nat.beq pc 24 then some (.iconst 2, 1, 0, 0, 0, .int 2) else none) else
       (bif Nat.blt pc 28 then (bif Nat.beq pc 25 then some (.invokevirtual 34, 3, 117, 0, 929, mj_u) else none) else
        (bif Nat.beq pc 28 then some (.ifCond .eq 5, 3, 33, 0, 0, mj_u) else none)))))) else
   (bif Nat.blt pc 46 then (bif Nat.blt pc 37 then (bif Nat.blt pc 33 then (bif Nat.blt pc 32 then (bif Nat.beq pc 31 then some (.iconst 0, 1, 0, 0, 0, .int 0) else none) else
       (bif Nat.beq pc 32 then some (.ireturn, 1, 0, 0, 0, mj_u) else none)) else
      (bif Nat.blt pc 34 then (bif Nat.beq pc 33 then some (.aload_n 0, 1, 0, 0, 0, mj_u) else none) else
       (bif Nat.beq pc 34 then some (.getfield 23, 3, 10, 1, 905, .null) else none))) else
     (bif Nat.blt pc 42 then (bif Nat.blt pc 40 then (bif Nat.beq pc 37 then some (.invokevirtual 155, 3, 165, 0, 1144, mj_u) else none) else
       (bif Nat.beq pc 40 then some (.astore 4, 2, 4, 0, 0, mj_u) else none)) else
      (bif Nat.blt pc 43 then (bif Nat.beq pc 42 then some (.aload_n 0, 1, 0, 0, 0, mj_u) else none) else
       (bif Nat.beq pc 43 then some (.getfield 23, 3, 10, 1, 905, .null) else none)))) else
    (bif Nat.blt pc 54 then (bif Nat.blt pc 51 then (bif Nat.blt pc 49 then (bif Nat.beq pc 46 then some (.invokevirtual 113, 3, 142, 0, 1055, mj_u) else none) else
       (bif Nat.beq pc 49 then some (.astore 5, 2, 5, 0, 0, mj_u) else none)) else
      (bif Nat.blt pc 53 then (bif Nat.beq pc 51 then some (.aload 4, 2, 4, 0, 0, mj_u) else none) else
       (bif Nat.beq pc 53 then some (.aload_n 0, 1, 0, 0, 0, mj_u) else none))) else
     (bif Nat.blt pc 56 then (bif Nat.blt pc 55 then (bif Nat.beq pc 54 then some (.iload_n 1, 1, 1, 0, 0, mj_u) else none) else
       (bif Nat.beq pc 55 then some (.iload_n 2, 1, 2, 0, 0, mj_u) else none)) else
      (bif Nat.blt pc 59 then (bif Nat.beq pc 56 then some (.invokevirtual 66, 3, 121, 0, 945, mj_u) else none) else
       (bif Nat.blt pc 60 then (bif Nat.beq pc 59 then some (.iaload, 1, 0, 0, 0, mj_u) else none) else
        (bif Nat.beq pc 60 then some (.istore 6, 2, 6, 0, 0, mj_u) else none))))))) else
  (bif Nat.blt pc 94 then (bif Nat.blt pc 76 then (bif Nat.blt pc 68 then (bif Nat.blt pc 65 then (bif Nat.blt pc 63 then (bif Nat.beq pc 62 then some (.iconst 0, 1, 0, 0, 0, .int 0) else none) else
       (bif Nat.beq pc 63 then some (.istore 7, 2, 7, 0, 0, mj_u) else none)) else
      (bif Nat.blt pc 66 then (bif Nat.beq pc 65 then some (.iconst 0, 1, 0, 0, 0, .int 0) else none) else
       (bif Nat.beq pc 66 then some (.istore 8, 2, 8, 0, 0, mj_u) else none))) else
     (bif Nat.blt pc 72 then (bif Nat.blt pc 70 then (bif Nat.beq pc 68 then some (.iload 8, 2, 8, 0, 0, mj_u) else none) else
       (bif Nat.beq pc 70 then some (.aload 4, 2, 4, 0, 0, mj_u) else none)) else
      (bif Nat.blt pc 73 then (bif Nat.beq pc 72 then some (.arraylength, 1, 0, 0, 0, mj_u) else none) else
       (bif Nat.beq pc 73 then some (.if_icmp .ge 53, 3, 126, 0, 0, mj_u) else none)))) else
    (bif Nat.blt pc 85 then (bif Nat.blt pc 81 then (bif Nat.blt pc 78 then (bif Nat.beq pc 76 then some (.iload 6, 2, 6, 0, 0, mj_u) else none) else
       (bif Nat.beq pc 78 then some (.ifCond .lt 48, 3, 126, 0, 0, mj_u) else none)) else
      (bif Nat.blt pc 83 then (bif Nat.beq pc 81 then some (.aload 4, 2, 4, 0, 0, mj_u) else none) else
       (bif Nat.beq pc 83 then some (.iload 8, 2, 8, 0, 0, mj_u) else none))) else
     (bif Nat.blt pc 88 then (bif Nat.blt pc 86 then (bif Nat.beq pc 85 then some (.iaload, 1, 0, 0, 0, mj_u) else none) else
       (bif Nat.beq pc 86 then some (.iload 6, 2, 6, 0, 0, mj_u) else none)) else
      (bif Nat.blt pc 91 then (bif Nat.beq pc 88 then some (.if_icmp .ne 32, 3, 120, 0, 0, mj_u) else none) else
       (bif Nat.blt pc 93 then (bif Nat.beq pc 91 then some (.iload 7, 2, 7, 0, 0, mj_u) else none) else
        (bif Nat.beq pc 93 then some (.iload_n 3, 1, 3, 0, 0, mj_u) else none)))))) else
   (bif Nat.blt pc 113 then (bif Nat.blt pc 103 then (bif Nat.blt pc 98 then (bif Nat.blt pc 97 then (bif Nat.beq pc 94 then some (.ifCond .ne 7, 3, 101, 0, 0, mj_u) else none) else
       (bif Nat.beq pc 97 then some (.iconst 1, 1, 0, 0, 0, .int 1) else none)) else
      (bif Nat.blt pc 101 then (bif Nat.beq pc 98 then some (.goto 19, 3, 117, 0, 0, mj_u) else none) else
       (bif Nat.beq pc 101 then some (.aload 5, 2, 5, 0, 0, mj_u) else none))) else
     (bif Nat.blt pc 106 then (bif Nat.blt pc 105 then (bif Nat.beq pc 103 then some (.iload 8, 2, 8, 0, 0, mj_u) else none) else
       (bif Nat.beq pc 105 then some (.iaload, 1, 0, 0, 0, mj_u) else none)) else
      (bif Nat.blt pc 107 then (bif Nat.beq pc 106 then some (.aload_n 0, 1, 0, 0, 0, mj_u) else none) else
       (bif Nat.blt pc 110 then (bif Nat.beq pc 107 then some (.getfield 23, 3, 10, 1, 905, .null) else none) else
        (bif Nat.beq pc 110 then some (.getfield 55, 3, 9, 2, 896, .null) else none))))) else
    (bif Nat.blt pc 118 then (bif Nat.blt pc 116 then (bif Nat.blt pc 115 then (bif Nat.beq pc 113 then some (.iload 8, 2, 8, 0, 0, mj_u) else none) else
       (bif Nat.beq pc 115 then some (.iaload, 1, 0, 0, 0, mj_u) else none)) else
      (bif Nat.blt pc 117 then (bif Nat.beq pc 116 then some (.isub, 1, 0, 0, 0, mj_u) else none) else
       (bif Nat.beq pc 117 then some (.iadd, 1, 0, 0, 0, mj_u) else none))) else
     (bif Nat.blt pc 123 then (bif Nat.blt pc 120 then (bif Nat.beq pc 118 then some (.istore 7, 2, 7, 0, 0, mj_u) else none) else
       (bif Nat.beq pc 120 then some (.iinc 8 1, 3, 8, 0, 0, .int 1) else none)) else
      (bif Nat.blt pc 126 then (bif Nat.beq pc 123 then some (.goto (-55), 3, 68, 0, 0, mj_u) else none) else
       (bif Nat.blt pc 128 then (bif Nat.beq pc 126 then some (.iload 7, 2, 7, 0, 0, mj_u) else none) else
        (bif Nat.beq pc 128 then some (.ireturn, 1, 0, 0, 0, mj_u) else none)))))))
def m_M_lake : mj_M := (166, prog_11_method_36_code, 9, (Option.some Jvm.ClassFile.FieldType.int), 10, 3, 1151, 1149, 1150, 55, 129, k_M_lake)
/-- WatershedMapModel.volume()I -/
def k_M_volume : Nat → Option mj_I := fun pc =>
  bif Nat.blt pc 5 then (bif Nat.blt pc 1 then (bif Nat.beq pc 0 then some (.aload_n 0, 1, 0, 0, 0, mj_u) else none) else
   (bif Nat.blt pc 2 then (bif Nat.beq pc 1 then some (.aload_n 0, 1, 0, 0, 0, mj_u) else none) else
    (bif Nat.beq pc 2 then some (.getfield 23, 3, 10, 1, 905, .null) else none))) else
  (bif Nat.blt pc 8 then (bif Nat.beq pc 5 then some (.invokevirtual 110, 3, 141, 0, 1046, mj_u) else none) else
   (bif Nat.blt pc 11 then (bif Nat.beq pc 8 then some (.invokevirtual 146, 3, 156, 0, 1108, mj_u) else none) else
    (bif Nat.beq pc 11 then some (.ireturn, 1, 0, 0, 0, mj_u) else none)))
def m_M_volume : mj_M := (167, prog_11_method_37_code, 1, (Option.some Jvm.ClassFile.FieldType.int), 10, 0, 1155, 1153, 1154, 55, 12, k_M_volume)
/-- WatershedMapModel.contour(II)I -/
def k_M_contour : Nat → Option mj_I := fun pc =>
  bif Nat.blt pc 25 then (bif Nat.blt pc 12 then (bif Nat.blt pc 3 then (bif Nat.blt pc 1 then (bif Nat.beq pc 0 then some (.aload_n 0, 1, 0, 0, 0, mj_u) else none) else
     (bif Nat.blt pc 2 then (bif Nat.beq pc 1 then some (.iload_n 1, 1, 1, 0, 0, mj_u) else none) else
      (bif Nat.beq pc 2 then some (.iconst 0, 1, 0, 0, 0, .int 0) else none))) else
    (bif Nat.blt pc 6 then (bif Nat.beq pc 3 then some (.sipush 999, 3, 0, 0, 0, .int 999) else none) else
     (bif Nat.blt pc 9 then (bif Nat.beq pc 6 then some (.invokestatic 41, 3, 115, 0, 922, mj_u) else none) else
      (bif Nat.beq pc 9 then some (.ifCond .eq 12, 3, 21, 0, 0, mj_u) else none)))) else
   (bif Nat.blt pc 15 then (bif Nat.blt pc 13 then (bif Nat.beq pc 12 then some (.iload_n 2, 1, 2, 0, 0, mj_u) else none) else
     (bif Nat.blt pc 14 then (bif Nat.beq pc 13 then some (.iconst 0, 1, 0, 0, 0, .int 0) else none) else
      (bif Nat.beq pc 14 then some (.iconst 2, 1, 0, 0, 0, .int 2) else none))) else
    (bif Nat.blt pc 21 then (bif Nat.blt pc 18 then (bif Nat.beq pc 15 then some (.invokestatic 41, 3, 115, 0, 922, mj_u) else none) else
      (bif Nat.beq pc 18 then some (.ifCond .ne 7, 3, 25, 0, 0, mj_u) else none)) else
     (bif Nat.blt pc 22 then (bif Nat.beq pc 21 then some (.iconst 1, 1, 0, 0, 0, .int 1) else none) else
      (bif Nat.beq pc 22 then some (.goto 4, 3, 26, 0, 0, mj_u) else none))))) else
  (bif Nat.blt pc 37 then (bif Nat.blt pc 30 then (bif Nat.blt pc 26 then (bif Nat.beq pc 25 then some (.iconst 0, 1, 0, 0, 0, .int 0) else none) else
     (bif Nat.blt pc 27 then (bif Nat.beq pc 26 then some (.iconst 1, 1, 0, 0, 0, .int 1) else none) else
      (bif Nat.beq pc 27 then some (.invokevirtual 52, 3, 116, 0, 925, mj_u) else none))) else
    (bif Nat.blt pc 33 then (bif Nat.beq pc 30 then some (.ifCond .eq 7, 3, 37, 0, 0, mj_u) else none) else
     (bif Nat.blt pc 34 then (bif Nat.beq pc 33 then some (.iconst 0, 1, 0, 0, 0, .int 0) else none) else
      (bif Nat.beq pc 34 then some (.goto 13, 3, 47, 0, 0, mj_u) else none)))) else
   (bif Nat.blt pc 42 then (bif Nat.blt pc 38 then (bif Nat.beq pc 37 then some (.aload_n 0, 1, 0, 0, 0, mj_u) else none) else
     (bif Nat.blt pc 41 then (bif Nat.beq pc 38 then some (.getfield 23, 3, 10, 1, 905, .null) else none) else
      (bif Nat.beq pc 41 then some (.iload_n 1, 1, 1, 0, 0, mj_u) else none))) else
    (bif Nat.blt pc 46 then (bif Nat.blt pc 45 then (bif Nat.beq pc 42 then some (.invokevirtual 161, 3, 169, 0, 1160, mj_u) else none) else
      (bif Nat.beq pc 45 then some (.iload_n 2, 1, 2, 0, 0, mj_u) else none)) else
     (bif Nat.blt pc 47 then (bif Nat.beq pc 46 then some (.iaload, 1, 0, 0, 0, mj_u) else none) else
      (bif Nat.beq pc 47 then some (.ireturn, 1, 0, 0, 0, mj_u) else none)))))
def m_M_contour : mj_M := (168, prog_11_method_38_code, 3, (Option.some Jvm.ClassFile.FieldType.int), 10, 2, 1159, 1157, 1158, 55, 48, k_M_contour)
/-- WatershedMapModel$Land.contour(I)[I -/
def k_ML_contour : Nat → Option mj_I := fun pc =>
  bif Nat.blt pc 150 then (bif Nat.blt pc 70 then (bif Nat.blt pc 35 then (bif Nat.blt pc 16 then (bif Nat.blt pc 7 then (bif Nat.blt pc 2 then (bif Nat.blt pc 1 then (bif Nat.beq pc 0 then some (.aload_n 0, 1, 0, 0, 0, mj_u) else none) else
        (bif Nat.beq pc 1 then some (.iload_n 1, 1, 1, 0, 0, mj_u) else none)) else
       (bif Nat.blt pc 5 then (bif Nat.beq pc 2 then some (.invokevirtual 93, 3, 170, 0, 1164, mj_u) else none) else
        (bif Nat.blt pc 6 then (bif Nat.beq pc 5 then some (.astore_n 2, 1, 2, 0, 0, mj_u) else none) else
         (bif Nat.beq pc 6 then some (.aload_n 2, 1, 2, 0, 0, mj_u) else none)))) else
      (bif Nat.blt pc 12 then (bif Nat.blt pc 10 then (bif Nat.beq pc 7 then some (.invokevirtual 85, 3, 175, 0, 1274, mj_u) else none) else
        (bif Nat.beq pc 10 then some (.newarray .int, 2, 0, 0, 0, mj_u) else none)) else
       (bif Nat.blt pc 13 then (bif Nat.beq pc 12 then some (.astore_n 3, 1, 3, 0, 0, mj_u) else none) else
        (bif Nat.blt pc 14 then (bif Nat.beq pc 13 then some (.iconst 0, 1, 0, 0, 0, .int 0) else none) else
         (bif Nat.beq pc 14 then some (.istore 4, 2, 4, 0, 0, mj_u) else none))))) else
     (bif Nat.blt pc 24 then (bif Nat.blt pc 19 then (bif Nat.blt pc 18 then (bif Nat.beq pc 16 then some (.iload 4, 2, 4, 0, 0, mj_u) else none) else
        (bif Nat.beq pc 18 then some (.aload_n 3, 1, 3, 0, 0, mj_u) else none)) else
       (bif Nat.blt pc 20 then (bif Nat.beq pc 19 then some (.arraylength, 1, 0, 0, 0, mj_u) else none) else
        (bif Nat.blt pc 23 then (bif Nat.beq pc 20 then some (.if_icmp .ge 15, 3, 35, 0, 0, mj_u) else none) else
         (bif Nat.beq pc 23 then some (.aload_n 3, 1, 3, 0, 0, mj_u) else none)))) else
      (bif Nat.blt pc 28 then (bif Nat.blt pc 26 then (bif Nat.beq pc 24 then some (.iload 4, 2, 4, 0, 0, mj_u) else none) else
        (bif Nat.beq pc 26 then some (.iload 4, 2, 4, 0, 0, mj_u) else none)) else
       (bif Nat.blt pc 29 then (bif Nat.beq pc 28 then some (.iastore, 1, 0, 0, 0, mj_u) else none) else
        (bif Nat.blt pc 32 then (bif Nat.beq pc 29 then some (.iinc 4 1, 3, 4, 0, 0, .int 1) else none) else
         (bif Nat.beq pc 32 then some (.goto (-16), 3, 16, 0, 0, mj_u) else none)))))) else
    (bif Nat.blt pc 52 then (bif Nat.blt pc 44 then (bif Nat.blt pc 38 then (bif Nat.blt pc 36 then (bif Nat.beq pc 35 then some (.iconst 1, 1, 0, 0, 0, .int 1) else none) else
        (bif Nat.beq pc 36 then some (.istore 4, 2, 4, 0, 0, mj_u) else none)) else
       (bif Nat.blt pc 40 then (bif Nat.beq pc 38 then some (.iload 4, 2, 4, 0, 0, mj_u) else none) else
        (bif Nat.blt pc 43 then (bif Nat.beq pc 40 then some (.ifCond .eq 107, 3, 147, 0, 0, mj_u) else none) else
         (bif Nat.beq pc 43 then some (.iconst 0, 1, 0, 0, 0, .int 0) else none)))) else
      (bif Nat.blt pc 47 then (bif Nat.blt pc 46 then (bif Nat.beq pc 44 then some (.istore 4, 2, 4, 0, 0, mj_u) else none) else
        (bif Nat.beq pc 46 then some (.iconst 0, 1, 0, 0, 0, .int 0) else none)) else
       (bif Nat.blt pc 49 then (bif Nat.beq pc 47 then some (.istore 5, 2, 5, 0, 0, mj_u) else none) else
        (bif Nat.blt pc 51 then (bif Nat.beq pc 49 then some (.iload 5, 2, 5, 0, 0, mj_u) else none) else
         (bif Nat.beq pc 51 then some (.aload_n 3, 1, 3, 0, 0, mj_u) else none))))) else
     (bif Nat.blt pc 61 then (bif Nat.blt pc 56 then (bif Nat.blt pc 53 then (bif Nat.beq pc 52 then some (.arraylength, 1, 0, 0, 0, mj_u) else none) else
        (bif Nat.beq pc 53 then some (.if_icmp .ge 91, 3, 144, 0, 0, mj_u) else none)) else
       (bif Nat.blt pc 57 then (bif Nat.beq pc 56 then some (.iconst 0, 1, 0, 0, 0, .int 0) else none) else
        (bif Nat.blt pc 59 then (bif Nat.beq pc 57 then some (.istore 6, 2, 6, 0, 0, mj_u) else none) else
         (bif Nat.beq pc 59 then some (.iload 6, 2, 6, 0, 0, mj_u) else none)))) else
      (bif Nat.blt pc 66 then (bif Nat.blt pc 63 then (bif Nat.beq pc 61 then some (.iload 5, 2, 5, 0, 0, mj_u) else none) else
        (bif Nat.beq pc 63 then some (.if_icmp .ge 75, 3, 138, 0, 0, mj_u) else none)) else
       (bif Nat.blt pc 67 then (bif Nat.beq pc 66 then some (.aload_n 3, 1, 3, 0, 0, mj_u) else none) else
        (bif Nat.blt pc 69 then (bif Nat.beq pc 67 then some (.iload 5, 2, 5, 0, 0, mj_u) else none) else
         (bif Nat.beq pc 69 then some (.iaload, 1, 0, 0, 0, mj_u) else none))))))) else
   (bif Nat.blt pc 111 then (bif Nat.blt pc 89 then (bif Nat.blt pc 78 then (bif Nat.blt pc 73 then (bif Nat.blt pc 71 then (bif Nat.beq pc 70 then some (.aload_n 3, 1, 3, 0, 0, mj_u) else none) else
        (bif Nat.beq pc 71 then some (.iload 6, 2, 6, 0, 0, mj_u) else none)) else
       (bif Nat.blt pc 74 then (bif Nat.beq pc 73 then some (.iaload, 1, 0, 0, 0, mj_u) else none) else
        (bif Nat.blt pc 77 then (bif Nat.beq pc 74 then some (.if_icmp .eq 58, 3, 132, 0, 0, mj_u) else none) else
         (bif Nat.beq pc 77 then some (.aload_n 2, 1, 2, 0, 0, mj_u) else none)))) else
      (bif Nat.blt pc 83 then (bif Nat.blt pc 80 then (bif Nat.beq pc 78 then some (.iload 5, 2, 5, 0, 0, mj_u) else none) else
        (bif Nat.beq pc 80 then some (.invokevirtual 86, 3, 1002, 0, 1278, mj_u) else none)) else
       (bif Nat.blt pc 86 then (bif Nat.beq pc 83 then some (.checkcast 29, 3, 0, 0, 0, mj_u) else none) else
        (bif Nat.blt pc 87 then (bif Nat.beq pc 86 then some (.aload_n 2, 1, 2, 0, 0, mj_u) else none) else
         (bif Nat.beq pc 87 then some (.iload 6, 2, 6, 0, 0, mj_u) else none))))) else
     (bif Nat.blt pc 104 then (bif Nat.blt pc 95 then (bif Nat.blt pc 92 then (bif Nat.beq pc 89 then some (.invokevirtual 86, 3, 1002, 0, 1278, mj_u) else none) else
        (bif Nat.beq pc 92 then some (.checkcast 29, 3, 0, 0, 0, mj_u) else none)) else
       (bif Nat.blt pc 98 then (bif Nat.beq pc 95 then some (.invokestatic 97, 3, 176, 0, 1297, mj_u) else none) else
        (bif Nat.blt pc 101 then (bif Nat.beq pc 98 then some (.ifCond .ne 6, 3, 104, 0, 0, mj_u) else none) else
         (bif Nat.beq pc 101 then some (.goto 31, 3, 132, 0, 0, mj_u) else none)))) else
      (bif Nat.blt pc 107 then (bif Nat.blt pc 105 then (bif Nat.beq pc 104 then some (.aload_n 3, 1, 3, 0, 0, mj_u) else none) else
        (bif Nat.beq pc 105 then some (.iload 5, 2, 5, 0, 0, mj_u) else none)) else
       (bif Nat.blt pc 108 then (bif Nat.beq pc 107 then some (.iaload, 1, 0, 0, 0, mj_u) else none) else
        (bif Nat.blt pc 109 then (bif Nat.beq pc 108 then some (.aload_n 3, 1, 3, 0, 0, mj_u) else none) else
         (bif Nat.beq pc 109 then some (.iload 6, 2, 6, 0, 0, mj_u) else none)))))) else
    (bif Nat.blt pc 128 then (bif Nat.blt pc 120 then (bif Nat.blt pc 115 then (bif Nat.blt pc 112 then (bif Nat.beq pc 111 then some (.iaload, 1, 0, 0, 0, mj_u) else none) else
        (bif Nat.beq pc 112 then some (.invokestatic 36, 3, 59, 0, 1054, mj_u) else none)) else
       (bif Nat.blt pc 117 then (bif Nat.beq pc 115 then some (.istore 7, 2, 7, 0, 0, mj_u) else none) else
        (bif Nat.blt pc 118 then (bif Nat.beq pc 117 then some (.aload_n 3, 1, 3, 0, 0, mj_u) else none) else
         (bif Nat.beq pc 118 then some (.iload 5, 2, 5, 0, 0, mj_u) else none)))) else
      (bif Nat.blt pc 123 then (bif Nat.blt pc 122 then (bif Nat.beq pc 120 then some (.iload 7, 2, 7, 0, 0, mj_u) else none) else
        (bif Nat.beq pc 122 then some (.iastore, 1, 0, 0, 0, mj_u) else none)) else
       (bif Nat.blt pc 124 then (bif Nat.beq pc 123 then some (.aload_n 3, 1, 3, 0, 0, mj_u) else none) else
        (bif Nat.blt pc 126 then (bif Nat.beq pc 124 then some (.iload 6, 2, 6, 0, 0, mj_u) else none) else
         (bif Nat.beq pc 126 then some (.iload 7, 2, 7, 0, 0, mj_u) else none))))) else
     (bif Nat.blt pc 138 then (bif Nat.blt pc 130 then (bif Nat.blt pc 129 then (bif Nat.beq pc 128 then some (.iastore, 1, 0, 0, 0, mj_u) else none) else
        (bif Nat.beq pc 129 then some (.iconst 1, 1, 0, 0, 0, .int 1) else none)) else
       (bif Nat.blt pc 132 then (bif Nat.beq pc 130 then some (.istore 4, 2, 4, 0, 0, mj_u) else none) else
        (bif Nat.blt pc 135 then (bif Nat.beq pc 132 then some (.iinc 6 1, 3, 6, 0, 0, .int 1) else none) else
         (bif Nat.beq pc 135 then some (.goto (-76), 3, 59, 0, 0, mj_u) else none)))) else
      (bif Nat.blt pc 144 then (bif Nat.blt pc 141 then (bif Nat.beq pc 138 then some (.iinc 5 1, 3, 5, 0, 0, .int 1) else none) else
        (bif Nat.beq pc 141 then some (.goto (-92), 3, 49, 0, 0, mj_u) else none)) else
       (bif Nat.blt pc 147 then (bif Nat.beq pc 144 then some (.goto (-106), 3, 38, 0, 0, mj_u) else none) else
        (bif Nat.blt pc 148 then (bif Nat.beq pc 147 then some (.iconst 0, 1, 0, 0, 0, .int 0) else none) else
         (bif Nat.beq pc 148 then some (.istore 5, 2, 5, 0, 0, mj_u) else none)))))))) else
  (bif Nat.blt pc 222 then (bif Nat.blt pc 186 then (bif Nat.blt pc 166 then (bif Nat.blt pc 158 then (bif Nat.blt pc 153 then (bif Nat.blt pc 151 then (bif Nat.beq pc 150 then some (.iconst 0, 1, 0, 0, 0, .int 0) else none) else
        (bif Nat.beq pc 151 then some (.istore 6, 2, 6, 0, 0, mj_u) else none)) else
       (bif Nat.blt pc 154 then (bif Nat.beq pc 153 then some (.iconst 0, 1, 0, 0, 0, .int 0) else none) else
        (bif Nat.blt pc 156 then (bif Nat.beq pc 154 then some (.istore 7, 2, 7, 0, 0, mj_u) else none) else
         (bif Nat.beq pc 156 then some (.iload 7, 2, 7, 0, 0, mj_u) else none)))) else
      (bif Nat.blt pc 160 then (bif Nat.blt pc 159 then (bif Nat.beq pc 158 then some (.aload_n 3, 1, 3, 0, 0, mj_u) else none) else
        (bif Nat.beq pc 159 then some (.arraylength, 1, 0, 0, 0, mj_u) else none)) else
       (bif Nat.blt pc 163 then (bif Nat.beq pc 160 then some (.if_icmp .ge 113, 3, 273, 0, 0, mj_u) else none) else
        (bif Nat.blt pc 164 then (bif Nat.beq pc 163 then some (.aload_n 3, 1, 3, 0, 0, mj_u) else none) else
         (bif Nat.beq pc 164 then some (.iload 7, 2, 7, 0, 0, mj_u) else none))))) else
     (bif Nat.blt pc 178 then (bif Nat.blt pc 169 then (bif Nat.blt pc 167 then (bif Nat.beq pc 166 then some (.iaload, 1, 0, 0, 0, mj_u) else none) else
        (bif Nat.beq pc 167 then some (.iload 7, 2, 7, 0, 0, mj_u) else none)) else
       (bif Nat.blt pc 172 then (bif Nat.beq pc 169 then some (.if_icmp .eq 6, 3, 175, 0, 0, mj_u) else none) else
        (bif Nat.blt pc 175 then (bif Nat.beq pc 172 then some (.goto 95, 3, 267, 0, 0, mj_u) else none) else
         (bif Nat.beq pc 175 then some (.iinc 5 1, 3, 5, 0, 0, .int 1) else none)))) else
      (bif Nat.blt pc 181 then (bif Nat.blt pc 179 then (bif Nat.beq pc 178 then some (.iconst 1, 1, 0, 0, 0, .int 1) else none) else
        (bif Nat.beq pc 179 then some (.istore 8, 2, 8, 0, 0, mj_u) else none)) else
       (bif Nat.blt pc 182 then (bif Nat.beq pc 181 then some (.iconst 0, 1, 0, 0, 0, .int 0) else none) else
        (bif Nat.blt pc 184 then (bif Nat.beq pc 182 then some (.istore 9, 2, 9, 0, 0, mj_u) else none) else
         (bif Nat.beq pc 184 then some (.iload 9, 2, 9, 0, 0, mj_u) else none)))))) else
    (bif Nat.blt pc 203 then (bif Nat.blt pc 194 then (bif Nat.blt pc 188 then (bif Nat.blt pc 187 then (bif Nat.beq pc 186 then some (.aload_n 3, 1, 3, 0, 0, mj_u) else none) else
        (bif Nat.beq pc 187 then some (.arraylength, 1, 0, 0, 0, mj_u) else none)) else
       (bif Nat.blt pc 191 then (bif Nat.beq pc 188 then some (.if_icmp .ge 64, 3, 252, 0, 0, mj_u) else none) else
        (bif Nat.blt pc 193 then (bif Nat.beq pc 191 then some (.iload 8, 2, 8, 0, 0, mj_u) else none) else
         (bif Nat.beq pc 193 then some (.aload_n 3, 1, 3, 0, 0, mj_u) else none)))) else
      (bif Nat.blt pc 197 then (bif Nat.blt pc 196 then (bif Nat.beq pc 194 then some (.iload 9, 2, 9, 0, 0, mj_u) else none) else
        (bif Nat.beq pc 196 then some (.iaload, 1, 0, 0, 0, mj_u) else none)) else
       (bif Nat.blt pc 199 then (bif Nat.beq pc 197 then some (.iload 7, 2, 7, 0, 0, mj_u) else none) else
        (bif Nat.blt pc 202 then (bif Nat.beq pc 199 then some (.if_icmp .ne 39, 3, 238, 0, 0, mj_u) else none) else
         (bif Nat.beq pc 202 then some (.aload_n 2, 1, 2, 0, 0, mj_u) else none))))) else
     (bif Nat.blt pc 213 then (bif Nat.blt pc 206 then (bif Nat.blt pc 204 then (bif Nat.beq pc 203 then some (.aload_n 2, 1, 2, 0, 0, mj_u) else none) else
        (bif Nat.beq pc 204 then some (.iload 9, 2, 9, 0, 0, mj_u) else none)) else
       (bif Nat.blt pc 209 then (bif Nat.beq pc 206 then some (.invokevirtual 86, 3, 1002, 0, 1278, mj_u) else none) else
        (bif Nat.blt pc 212 then (bif Nat.beq pc 209 then some (.checkcast 29, 3, 0, 0, 0, mj_u) else none) else
         (bif Nat.beq pc 212 then some (.iconst 0, 1, 0, 0, 0, .int 0) else none)))) else
      (bif Nat.blt pc 217 then (bif Nat.blt pc 214 then (bif Nat.beq pc 213 then some (.iaload, 1, 0, 0, 0, mj_u) else none) else
        (bif Nat.beq pc 214 then some (.invokestatic 101, 3, 177, 0, 1300, mj_u) else none)) else
       (bif Nat.blt pc 220 then (bif Nat.beq pc 217 then some (.ifCond .eq 25, 3, 242, 0, 0, mj_u) else none) else
        (bif Nat.blt pc 221 then (bif Nat.beq pc 220 then some (.aload_n 2, 1, 2, 0, 0, mj_u) else none) else
         (bif Nat.beq pc 221 then some (.aload_n 2, 1, 2, 0, 0, mj_u) else none))))))) else
   (bif Nat.blt pc 264 then (bif Nat.blt pc 243 then (bif Nat.blt pc 232 then (bif Nat.blt pc 227 then (bif Nat.blt pc 224 then (bif Nat.beq pc 222 then some (.iload 9, 2, 9, 0, 0, mj_u) else none) else
        (bif Nat.beq pc 224 then some (.invokevirtual 86, 3, 1002, 0, 1278, mj_u) else none)) else
       (bif Nat.blt pc 230 then (bif Nat.beq pc 227 then some (.checkcast 29, 3, 0, 0, 0, mj_u) else none) else
        (bif Nat.blt pc 231 then (bif Nat.beq pc 230 then some (.iconst 1, 1, 0, 0, 0, .int 1) else none) else
         (bif Nat.beq pc 231 then some (.iaload, 1, 0, 0, 0, mj_u) else none)))) else
      (bif Nat.blt pc 238 then (bif Nat.blt pc 235 then (bif Nat.beq pc 232 then some (.invokestatic 101, 3, 177, 0, 1300, mj_u) else none) else
        (bif Nat.beq pc 235 then some (.ifCond .eq 7, 3, 242, 0, 0, mj_u) else none)) else
       (bif Nat.blt pc 239 then (bif Nat.beq pc 238 then some (.iconst 1, 1, 0, 0, 0, .int 1) else none) else
        (bif Nat.blt pc 242 then (bif Nat.beq pc 239 then some (.goto 4, 3, 243, 0, 0, mj_u) else none) else
         (bif Nat.beq pc 242 then some (.iconst 0, 1, 0, 0, 0, .int 0) else none))))) else
     (bif Nat.blt pc 254 then (bif Nat.blt pc 246 then (bif Nat.blt pc 244 then (bif Nat.beq pc 243 then some (.iand, 1, 0, 0, 0, mj_u) else none) else
        (bif Nat.beq pc 244 then some (.istore 8, 2, 8, 0, 0, mj_u) else none)) else
       (bif Nat.blt pc 249 then (bif Nat.beq pc 246 then some (.iinc 9 1, 3, 9, 0, 0, .int 1) else none) else
        (bif Nat.blt pc 252 then (bif Nat.beq pc 249 then some (.goto (-65), 3, 184, 0, 0, mj_u) else none) else
         (bif Nat.beq pc 252 then some (.iload 6, 2, 6, 0, 0, mj_u) else none)))) else
      (bif Nat.blt pc 259 then (bif Nat.blt pc 256 then (bif Nat.beq pc 254 then some (.iload 8, 2, 8, 0, 0, mj_u) else none) else
        (bif Nat.beq pc 256 then some (.ifCond .eq 7, 3, 263, 0, 0, mj_u) else none)) else
       (bif Nat.blt pc 260 then (bif Nat.beq pc 259 then some (.iconst 1, 1, 0, 0, 0, .int 1) else none) else
        (bif Nat.blt pc 263 then (bif Nat.beq pc 260 then some (.goto 4, 3, 264, 0, 0, mj_u) else none) else
         (bif Nat.beq pc 263 then some (.iconst 0, 1, 0, 0, 0, .int 0) else none)))))) else
    (bif Nat.blt pc 280 then (bif Nat.blt pc 274 then (bif Nat.blt pc 267 then (bif Nat.blt pc 265 then (bif Nat.beq pc 264 then some (.iadd, 1, 0, 0, 0, mj_u) else none) else
        (bif Nat.beq pc 265 then some (.istore 6, 2, 6, 0, 0, mj_u) else none)) else
       (bif Nat.blt pc 270 then (bif Nat.beq pc 267 then some (.iinc 7 1, 3, 7, 0, 0, .int 1) else none) else
        (bif Nat.blt pc 273 then (bif Nat.beq pc 270 then some (.goto (-114), 3, 156, 0, 0, mj_u) else none) else
         (bif Nat.beq pc 273 then some (.iconst 3, 1, 0, 0, 0, .int 3) else none)))) else
      (bif Nat.blt pc 277 then (bif Nat.blt pc 276 then (bif Nat.beq pc 274 then some (.newarray .int, 2, 0, 0, 0, mj_u) else none) else
        (bif Nat.beq pc 276 then some (.dup, 1, 0, 0, 0, mj_u) else none)) else
       (bif Nat.blt pc 278 then (bif Nat.beq pc 277 then some (.iconst 0, 1, 0, 0, 0, .int 0) else none) else
        (bif Nat.blt pc 279 then (bif Nat.beq pc 278 then some (.aload_n 3, 1, 3, 0, 0, mj_u) else none) else
         (bif Nat.beq pc 279 then some (.arraylength, 1, 0, 0, 0, mj_u) else none))))) else
     (bif Nat.blt pc 286 then (bif Nat.blt pc 282 then (bif Nat.blt pc 281 then (bif Nat.beq pc 280 then some (.iastore, 1, 0, 0, 0, mj_u) else none) else
        (bif Nat.beq pc 281 then some (.dup, 1, 0, 0, 0, mj_u) else none)) else
       (bif Nat.blt pc 283 then (bif Nat.beq pc 282 then some (.iconst 1, 1, 0, 0, 0, .int 1) else none) else
        (bif Nat.blt pc 285 then (bif Nat.beq pc 283 then some (.iload 5, 2, 5, 0, 0, mj_u) else none) else
         (bif Nat.beq pc 285 then some (.iastore, 1, 0, 0, 0, mj_u) else none)))) else
      (bif Nat.blt pc 288 then (bif Nat.blt pc 287 then (bif Nat.beq pc 286 then some (.dup, 1, 0, 0, 0, mj_u) else none) else
        (bif Nat.beq pc 287 then some (.iconst 2, 1, 0, 0, 0, .int 2) else none)) else
       (bif Nat.blt pc 290 then (bif Nat.beq pc 288 then some (.iload 6, 2, 6, 0, 0, mj_u) else none) else
        (bif Nat.blt pc 291 then (bif Nat.beq pc 290 then some (.iastore, 1, 0, 0, 0, mj_u) else none) else
         (bif Nat.beq pc 291 then some (.areturn, 1, 0, 0, 0, mj_u) else none))))))))
def m_ML_contour : mj_M := (169, prog_12_method_21_code, 10, (Option.some (Jvm.ClassFile.FieldType.array Jvm.ClassFile.FieldType.int)), 9, 1, 1163, 1161, 1162, 56, 292, k_ML_contour)
/-- WatershedMapModel$Land.pieces(I)Ljava/util/ArrayList; -/
def k_ML_pieces : Nat → Option mj_I := fun pc =>
  bif Nat.blt pc 159 then (bif Nat.blt pc 81 then (bif Nat.blt pc 45 then (bif Nat.blt pc 21 then (bif Nat.blt pc 10 then (bif Nat.blt pc 7 then (bif Nat.blt pc 3 then (bif Nat.beq pc 0 then some (.new 68, 3, 11, 1169, 1168, mj_u) else none) else
        (bif Nat.blt pc 4 then (bif Nat.beq pc 3 then some (.dup, 1, 0, 0, 0, mj_u) else none) else
         (bif Nat.beq pc 4 then some (.invokespecial 70, 3, 171, 0, 1170, mj_u) else none))) else
       (bif Nat.blt pc 8 then (bif Nat.beq pc 7 then some (.astore_n 2, 1, 2, 0, 0, mj_u) else none) else
        (bif Nat.blt pc 9 then (bif Nat.beq pc 8 then some (.iconst 0, 1, 0, 0, 0, .int 0) else none) else
         (bif Nat.beq pc 9 then some (.istore_n 3, 1, 3, 0, 0, mj_u) else none)))) else
      (bif Nat.blt pc 13 then (bif Nat.blt pc 11 then (bif Nat.beq pc 10 then some (.iload_n 3, 1, 3, 0, 0, mj_u) else none) else
        (bif Nat.blt pc 12 then (bif Nat.beq pc 11 then some (.iconst 1, 1, 0, 0, 0, .int 1) else none) else
         (bif Nat.beq pc 12 then some (.iadd, 1, 0, 0, 0, mj_u) else none))) else
       (bif Nat.blt pc 17 then (bif Nat.blt pc 14 then (bif Nat.beq pc 13 then some (.aload_n 0, 1, 0, 0, 0, mj_u) else none) else
         (bif Nat.beq pc 14 then some (.getfield 15, 3, 9, 1, 893, .int 0) else none)) else
        (bif Nat.blt pc 20 then (bif Nat.beq pc 17 then some (.if_icmp .ge 338, 3, 355, 0, 0, mj_u) else none) else
         (bif Nat.beq pc 20 then some (.iconst 0, 1, 0, 0, 0, .int 0) else none))))) else
     (bif Nat.blt pc 34 then (bif Nat.blt pc 26 then (bif Nat.blt pc 23 then (bif Nat.beq pc 21 then some (.istore 4, 2, 4, 0, 0, mj_u) else none) else
        (bif Nat.blt pc 25 then (bif Nat.beq pc 23 then some (.iload 4, 2, 4, 0, 0, mj_u) else none) else
         (bif Nat.beq pc 25 then some (.iconst 1, 1, 0, 0, 0, .int 1) else none))) else
       (bif Nat.blt pc 28 then (bif Nat.blt pc 27 then (bif Nat.beq pc 26 then some (.iadd, 1, 0, 0, 0, mj_u) else none) else
         (bif Nat.beq pc 27 then some (.aload_n 0, 1, 0, 0, 0, mj_u) else none)) else
        (bif Nat.blt pc 31 then (bif Nat.beq pc 28 then some (.getfield 9, 3, 9, 0, 891, .int 0) else none) else
         (bif Nat.beq pc 31 then some (.if_icmp .ge 318, 3, 349, 0, 0, mj_u) else none)))) else
      (bif Nat.blt pc 39 then (bif Nat.blt pc 35 then (bif Nat.beq pc 34 then some (.iload_n 3, 1, 3, 0, 0, mj_u) else none) else
        (bif Nat.blt pc 36 then (bif Nat.beq pc 35 then some (.aload_n 0, 1, 0, 0, 0, mj_u) else none) else
         (bif Nat.beq pc 36 then some (.getfield 9, 3, 9, 0, 891, .int 0) else none))) else
       (bif Nat.blt pc 42 then (bif Nat.blt pc 40 then (bif Nat.beq pc 39 then some (.imul, 1, 0, 0, 0, mj_u) else none) else
         (bif Nat.beq pc 40 then some (.iload 4, 2, 4, 0, 0, mj_u) else none)) else
        (bif Nat.blt pc 43 then (bif Nat.beq pc 42 then some (.iadd, 1, 0, 0, 0, mj_u) else none) else
         (bif Nat.beq pc 43 then some (.istore 5, 2, 5, 0, 0, mj_u) else none)))))) else
    (bif Nat.blt pc 61 then (bif Nat.blt pc 53 then (bif Nat.blt pc 49 then (bif Nat.blt pc 46 then (bif Nat.beq pc 45 then some (.iconst 4, 1, 0, 0, 0, .int 4) else none) else
        (bif Nat.blt pc 48 then (bif Nat.beq pc 46 then some (.newarray .int, 2, 0, 0, 0, mj_u) else none) else
         (bif Nat.beq pc 48 then some (.dup, 1, 0, 0, 0, mj_u) else none))) else
       (bif Nat.blt pc 50 then (bif Nat.beq pc 49 then some (.iconst 0, 1, 0, 0, 0, .int 0) else none) else
        (bif Nat.blt pc 52 then (bif Nat.beq pc 50 then some (.iload 5, 2, 5, 0, 0, mj_u) else none) else
         (bif Nat.beq pc 52 then some (.iastore, 1, 0, 0, 0, mj_u) else none)))) else
      (bif Nat.blt pc 57 then (bif Nat.blt pc 54 then (bif Nat.beq pc 53 then some (.dup, 1, 0, 0, 0, mj_u) else none) else
        (bif Nat.blt pc 55 then (bif Nat.beq pc 54 then some (.iconst 1, 1, 0, 0, 0, .int 1) else none) else
         (bif Nat.beq pc 55 then some (.iload 5, 2, 5, 0, 0, mj_u) else none))) else
       (bif Nat.blt pc 59 then (bif Nat.blt pc 58 then (bif Nat.beq pc 57 then some (.iconst 1, 1, 0, 0, 0, .int 1) else none) else
         (bif Nat.beq pc 58 then some (.iadd, 1, 0, 0, 0, mj_u) else none)) else
        (bif Nat.blt pc 60 then (bif Nat.beq pc 59 then some (.iastore, 1, 0, 0, 0, mj_u) else none) else
         (bif Nat.beq pc 60 then some (.dup, 1, 0, 0, 0, mj_u) else none))))) else
     (bif Nat.blt pc 71 then (bif Nat.blt pc 65 then (bif Nat.blt pc 62 then (bif Nat.beq pc 61 then some (.iconst 2, 1, 0, 0, 0, .int 2) else none) else
        (bif Nat.blt pc 64 then (bif Nat.beq pc 62 then some (.iload 5, 2, 5, 0, 0, mj_u) else none) else
         (bif Nat.beq pc 64 then some (.aload_n 0, 1, 0, 0, 0, mj_u) else none))) else
       (bif Nat.blt pc 69 then (bif Nat.blt pc 68 then (bif Nat.beq pc 65 then some (.getfield 9, 3, 9, 0, 891, .int 0) else none) else
         (bif Nat.beq pc 68 then some (.iadd, 1, 0, 0, 0, mj_u) else none)) else
        (bif Nat.blt pc 70 then (bif Nat.beq pc 69 then some (.iconst 1, 1, 0, 0, 0, .int 1) else none) else
         (bif Nat.beq pc 70 then some (.iadd, 1, 0, 0, 0, mj_u) else none)))) else
      (bif Nat.blt pc 74 then (bif Nat.blt pc 72 then (bif Nat.beq pc 71 then some (.iastore, 1, 0, 0, 0, mj_u) else none) else
        (bif Nat.blt pc 73 then (bif Nat.beq pc 72 then some (.dup, 1, 0, 0, 0, mj_u) else none) else
         (bif Nat.beq pc 73 then some (.iconst 3, 1, 0, 0, 0, .int 3) else none))) else
       (bif Nat.blt pc 77 then (bif Nat.blt pc 76 then (bif Nat.beq pc 74 then some (.iload 5, 2, 5, 0, 0, mj_u) else none) else
         (bif Nat.beq pc 76 then some (.aload_n 0, 1, 0, 0, 0, mj_u) else none)) else
        (bif Nat.blt pc 80 then (bif Nat.beq pc 77 then some (.getfield 9, 3, 9, 0, 891, .int 0) else none) else
         (bif Nat.beq pc 80 then some (.iadd, 1, 0, 0, 0, mj_u) else none))))))) else
   (bif Nat.blt pc 115 then (bif Nat.blt pc 97 then (bif Nat.blt pc 89 then (bif Nat.blt pc 85 then (bif Nat.blt pc 82 then (bif Nat.beq pc 81 then some (.iastore, 1, 0, 0, 0, mj_u) else none) else
        (bif Nat.blt pc 84 then (bif Nat.beq pc 82 then some (.astore 6, 2, 6, 0, 0, mj_u) else none) else
         (bif Nat.beq pc 84 then some (.iconst 4, 1, 0, 0, 0, .int 4) else none))) else
       (bif Nat.blt pc 87 then (bif Nat.beq pc 85 then some (.newarray .int, 2, 0, 0, 0, mj_u) else none) else
        (bif Nat.blt pc 88 then (bif Nat.beq pc 87 then some (.dup, 1, 0, 0, 0, mj_u) else none) else
         (bif Nat.beq pc 88 then some (.iconst 0, 1, 0, 0, 0, .int 0) else none)))) else
      (bif Nat.blt pc 93 then (bif Nat.blt pc 90 then (bif Nat.beq pc 89 then some (.iconst 2, 1, 0, 0, 0, .int 2) else none) else
        (bif Nat.blt pc 92 then (bif Nat.beq pc 90 then some (.iload 5, 2, 5, 0, 0, mj_u) else none) else
         (bif Nat.beq pc 92 then some (.imul, 1, 0, 0, 0, mj_u) else none))) else
       (bif Nat.blt pc 95 then (bif Nat.blt pc 94 then (bif Nat.beq pc 93 then some (.iastore, 1, 0, 0, 0, mj_u) else none) else
         (bif Nat.beq pc 94 then some (.dup, 1, 0, 0, 0, mj_u) else none)) else
        (bif Nat.blt pc 96 then (bif Nat.beq pc 95 then some (.iconst 1, 1, 0, 0, 0, .int 1) else none) else
         (bif Nat.beq pc 96 then some (.iconst 2, 1, 0, 0, 0, .int 2) else none))))) else
     (bif Nat.blt pc 105 then (bif Nat.blt pc 101 then (bif Nat.blt pc 99 then (bif Nat.beq pc 97 then some (.iload 5, 2, 5, 0, 0, mj_u) else none) else
        (bif Nat.blt pc 100 then (bif Nat.beq pc 99 then some (.iconst 1, 1, 0, 0, 0, .int 1) else none) else
         (bif Nat.beq pc 100 then some (.iadd, 1, 0, 0, 0, mj_u) else none))) else
       (bif Nat.blt pc 103 then (bif Nat.blt pc 102 then (bif Nat.beq pc 101 then some (.imul, 1, 0, 0, 0, mj_u) else none) else
         (bif Nat.beq pc 102 then some (.iconst 1, 1, 0, 0, 0, .int 1) else none)) else
        (bif Nat.blt pc 104 then (bif Nat.beq pc 103 then some (.iadd, 1, 0, 0, 0, mj_u) else none) else
         (bif Nat.beq pc 104 then some (.iastore, 1, 0, 0, 0, mj_u) else none)))) else
      (bif Nat.blt pc 108 then (bif Nat.blt pc 106 then (bif Nat.beq pc 105 then some (.dup, 1, 0, 0, 0, mj_u) else none) else
        (bif Nat.blt pc 107 then (bif Nat.beq pc 106 then some (.iconst 2, 1, 0, 0, 0, .int 2) else none) else
         (bif Nat.beq pc 107 then some (.iconst 2, 1, 0, 0, 0, .int 2) else none))) else
       (bif Nat.blt pc 111 then (bif Nat.blt pc 110 then (bif Nat.beq pc 108 then some (.iload 5, 2, 5, 0, 0, mj_u) else none) else
         (bif Nat.beq pc 110 then some (.aload_n 0, 1, 0, 0, 0, mj_u) else none)) else
        (bif Nat.blt pc 114 then (bif Nat.beq pc 111 then some (.getfield 9, 3, 9, 0, 891, .int 0) else none) else
         (bif Nat.beq pc 114 then some (.iadd, 1, 0, 0, 0, mj_u) else none)))))) else
    (bif Nat.blt pc 135 then (bif Nat.blt pc 123 then (bif Nat.blt pc 118 then (bif Nat.blt pc 116 then (bif Nat.beq pc 115 then some (.imul, 1, 0, 0, 0, mj_u) else none) else
        (bif Nat.blt pc 117 then (bif Nat.beq pc 116 then some (.iastore, 1, 0, 0, 0, mj_u) else none) else
         (bif Nat.beq pc 117 then some (.dup, 1, 0, 0, 0, mj_u) else none))) else
       (bif Nat.blt pc 120 then (bif Nat.blt pc 119 then (bif Nat.beq pc 118 then some (.iconst 3, 1, 0, 0, 0, .int 3) else none) else
         (bif Nat.beq pc 119 then some (.iconst 2, 1, 0, 0, 0, .int 2) else none)) else
        (bif Nat.blt pc 122 then (bif Nat.beq pc 120 then some (.iload 5, 2, 5, 0, 0, mj_u) else none) else
         (bif Nat.beq pc 122 then some (.imul, 1, 0, 0, 0, mj_u) else none)))) else
      (bif Nat.blt pc 126 then (bif Nat.blt pc 124 then (bif Nat.beq pc 123 then some (.iconst 1, 1, 0, 0, 0, .int 1) else none) else
        (bif Nat.blt pc 125 then (bif Nat.beq pc 124 then some (.iadd, 1, 0, 0, 0, mj_u) else none) else
         (bif Nat.beq pc 125 then some (.iastore, 1, 0, 0, 0, mj_u) else none))) else
       (bif Nat.blt pc 131 then (bif Nat.blt pc 128 then (bif Nat.beq pc 126 then some (.astore 7, 2, 7, 0, 0, mj_u) else none) else
         (bif Nat.beq pc 128 then some (.new 68, 3, 11, 1169, 1168, mj_u) else none)) else
        (bif Nat.blt pc 132 then (bif Nat.beq pc 131 then some (.dup, 1, 0, 0, 0, mj_u) else none) else
         (bif Nat.beq pc 132 then some (.invokespecial 70, 3, 171, 0, 1170, mj_u) else none))))) else
     (bif Nat.blt pc 146 then (bif Nat.blt pc 140 then (bif Nat.blt pc 137 then (bif Nat.beq pc 135 then some (.astore 8, 2, 8, 0, 0, mj_u) else none) else
        (bif Nat.blt pc 138 then (bif Nat.beq pc 137 then some (.iconst 0, 1, 0, 0, 0, .int 0) else none) else
         (bif Nat.beq pc 138 then some (.istore 9, 2, 9, 0, 0, mj_u) else none))) else
       (bif Nat.blt pc 143 then (bif Nat.blt pc 141 then (bif Nat.beq pc 140 then some (.iconst 0, 1, 0, 0, 0, .int 0) else none) else
         (bif Nat.beq pc 141 then some (.istore 10, 2, 10, 0, 0, mj_u) else none)) else
        (bif Nat.blt pc 145 then (bif Nat.beq pc 143 then some (.iload 10, 2, 10, 0, 0, mj_u) else none) else
         (bif Nat.beq pc 145 then some (.iconst 4, 1, 0, 0, 0, .int 4) else none)))) else
      (bif Nat.blt pc 152 then (bif Nat.blt pc 149 then (bif Nat.beq pc 146 then some (.if_icmp .ge 65, 3, 211, 0, 0, mj_u) else none) else
        (bif Nat.blt pc 150 then (bif Nat.beq pc 149 then some (.aload_n 0, 1, 0, 0, 0, mj_u) else none) else
         (bif Nat.beq pc 150 then some (.aload 6, 2, 6, 0, 0, mj_u) else none))) else
       (bif Nat.blt pc 155 then (bif Nat.blt pc 154 then (bif Nat.beq pc 152 then some (.iload 10, 2, 10, 0, 0, mj_u) else none) else
         (bif Nat.beq pc 154 then some (.iaload, 1, 0, 0, 0, mj_u) else none)) else
        (bif Nat.blt pc 156 then (bif Nat.beq pc 155 then some (.iload_n 1, 1, 1, 0, 0, mj_u) else none) else
         (bif Nat.beq pc 156 then some (.invokevirtual 71, 3, 174, 0, 1194, mj_u) else none)))))))) else
  (bif Nat.blt pc 260 then (bif Nat.blt pc 205 then (bif Nat.blt pc 180 then (bif Nat.blt pc 167 then (bif Nat.blt pc 164 then (bif Nat.blt pc 160 then (bif Nat.beq pc 159 then some (.aload_n 0, 1, 0, 0, 0, mj_u) else none) else
        (bif Nat.blt pc 162 then (bif Nat.beq pc 160 then some (.aload 6, 2, 6, 0, 0, mj_u) else none) else
         (bif Nat.beq pc 162 then some (.iload 10, 2, 10, 0, 0, mj_u) else none))) else
       (bif Nat.blt pc 165 then (bif Nat.beq pc 164 then some (.iconst 1, 1, 0, 0, 0, .int 1) else none) else
        (bif Nat.blt pc 166 then (bif Nat.beq pc 165 then some (.iadd, 1, 0, 0, 0, mj_u) else none) else
         (bif Nat.beq pc 166 then some (.iconst 4, 1, 0, 0, 0, .int 4) else none)))) else
      (bif Nat.blt pc 170 then (bif Nat.blt pc 168 then (bif Nat.beq pc 167 then some (.irem, 1, 0, 0, 0, mj_u) else none) else
        (bif Nat.blt pc 169 then (bif Nat.beq pc 168 then some (.iaload, 1, 0, 0, 0, mj_u) else none) else
         (bif Nat.beq pc 169 then some (.iload_n 1, 1, 1, 0, 0, mj_u) else none))) else
       (bif Nat.blt pc 176 then (bif Nat.blt pc 173 then (bif Nat.beq pc 170 then some (.invokevirtual 71, 3, 174, 0, 1194, mj_u) else none) else
         (bif Nat.beq pc 173 then some (.if_icmp .eq 17, 3, 190, 0, 0, mj_u) else none)) else
        (bif Nat.blt pc 178 then (bif Nat.beq pc 176 then some (.aload 8, 2, 8, 0, 0, mj_u) else none) else
         (bif Nat.beq pc 178 then some (.aload 7, 2, 7, 0, 0, mj_u) else none))))) else
     (bif Nat.blt pc 193 then (bif Nat.blt pc 186 then (bif Nat.blt pc 182 then (bif Nat.beq pc 180 then some (.iload 10, 2, 10, 0, 0, mj_u) else none) else
        (bif Nat.blt pc 183 then (bif Nat.beq pc 182 then some (.iaload, 1, 0, 0, 0, mj_u) else none) else
         (bif Nat.beq pc 183 then some (.invokestatic 75, 3, 1002, 0, 1198, mj_u) else none))) else
       (bif Nat.blt pc 190 then (bif Nat.blt pc 189 then (bif Nat.beq pc 186 then some (.invokevirtual 81, 3, 1002, 0, 1218, mj_u) else none) else
         (bif Nat.beq pc 189 then some (.pop, 1, 0, 0, 0, mj_u) else none)) else
        (bif Nat.blt pc 192 then (bif Nat.beq pc 190 then some (.iload 9, 2, 9, 0, 0, mj_u) else none) else
         (bif Nat.beq pc 192 then some (.aload_n 0, 1, 0, 0, 0, mj_u) else none)))) else
      (bif Nat.blt pc 200 then (bif Nat.blt pc 196 then (bif Nat.beq pc 193 then some (.getfield 18, 3, 9, 2, 895, .null) else none) else
        (bif Nat.blt pc 198 then (bif Nat.beq pc 196 then some (.aload 6, 2, 6, 0, 0, mj_u) else none) else
         (bif Nat.beq pc 198 then some (.iload 10, 2, 10, 0, 0, mj_u) else none))) else
       (bif Nat.blt pc 202 then (bif Nat.blt pc 201 then (bif Nat.beq pc 200 then some (.iaload, 1, 0, 0, 0, mj_u) else none) else
         (bif Nat.beq pc 201 then some (.iaload, 1, 0, 0, 0, mj_u) else none)) else
        (bif Nat.blt pc 203 then (bif Nat.beq pc 202 then some (.iadd, 1, 0, 0, 0, mj_u) else none) else
         (bif Nat.beq pc 203 then some (.istore 9, 2, 9, 0, 0, mj_u) else none)))))) else
    (bif Nat.blt pc 232 then (bif Nat.blt pc 221 then (bif Nat.blt pc 213 then (bif Nat.blt pc 208 then (bif Nat.beq pc 205 then some (.iinc 10 1, 3, 10, 0, 0, .int 1) else none) else
        (bif Nat.blt pc 211 then (bif Nat.beq pc 208 then some (.goto (-65), 3, 143, 0, 0, mj_u) else none) else
         (bif Nat.beq pc 211 then some (.aload 8, 2, 8, 0, 0, mj_u) else none))) else
       (bif Nat.blt pc 217 then (bif Nat.blt pc 216 then (bif Nat.beq pc 213 then some (.invokevirtual 85, 3, 175, 0, 1274, mj_u) else none) else
         (bif Nat.beq pc 216 then some (.iconst 2, 1, 0, 0, 0, .int 2) else none)) else
        (bif Nat.blt pc 220 then (bif Nat.beq pc 217 then some (.if_icmp .ne 41, 3, 258, 0, 0, mj_u) else none) else
         (bif Nat.beq pc 220 then some (.aload_n 2, 1, 2, 0, 0, mj_u) else none)))) else
      (bif Nat.blt pc 225 then (bif Nat.blt pc 222 then (bif Nat.beq pc 221 then some (.iconst 2, 1, 0, 0, 0, .int 2) else none) else
        (bif Nat.blt pc 224 then (bif Nat.beq pc 222 then some (.newarray .int, 2, 0, 0, 0, mj_u) else none) else
         (bif Nat.beq pc 224 then some (.dup, 1, 0, 0, 0, mj_u) else none))) else
       (bif Nat.blt pc 228 then (bif Nat.blt pc 226 then (bif Nat.beq pc 225 then some (.iconst 0, 1, 0, 0, 0, .int 0) else none) else
         (bif Nat.beq pc 226 then some (.aload 8, 2, 8, 0, 0, mj_u) else none)) else
        (bif Nat.blt pc 229 then (bif Nat.beq pc 228 then some (.iconst 0, 1, 0, 0, 0, .int 0) else none) else
         (bif Nat.beq pc 229 then some (.invokevirtual 86, 3, 1002, 0, 1278, mj_u) else none))))) else
     (bif Nat.blt pc 244 then (bif Nat.blt pc 239 then (bif Nat.blt pc 235 then (bif Nat.beq pc 232 then some (.checkcast 76, 3, 0, 0, 0, mj_u) else none) else
        (bif Nat.blt pc 238 then (bif Nat.beq pc 235 then some (.invokevirtual 90, 3, 1002, 0, 1293, mj_u) else none) else
         (bif Nat.beq pc 238 then some (.iastore, 1, 0, 0, 0, mj_u) else none))) else
       (bif Nat.blt pc 241 then (bif Nat.blt pc 240 then (bif Nat.beq pc 239 then some (.dup, 1, 0, 0, 0, mj_u) else none) else
         (bif Nat.beq pc 240 then some (.iconst 1, 1, 0, 0, 0, .int 1) else none)) else
        (bif Nat.blt pc 243 then (bif Nat.beq pc 241 then some (.aload 8, 2, 8, 0, 0, mj_u) else none) else
         (bif Nat.beq pc 243 then some (.iconst 1, 1, 0, 0, 0, .int 1) else none)))) else
      (bif Nat.blt pc 253 then (bif Nat.blt pc 247 then (bif Nat.beq pc 244 then some (.invokevirtual 86, 3, 1002, 0, 1278, mj_u) else none) else
        (bif Nat.blt pc 250 then (bif Nat.beq pc 247 then some (.checkcast 76, 3, 0, 0, 0, mj_u) else none) else
         (bif Nat.beq pc 250 then some (.invokevirtual 90, 3, 1002, 0, 1293, mj_u) else none))) else
       (bif Nat.blt pc 257 then (bif Nat.blt pc 254 then (bif Nat.beq pc 253 then some (.iastore, 1, 0, 0, 0, mj_u) else none) else
         (bif Nat.beq pc 254 then some (.invokevirtual 81, 3, 1002, 0, 1218, mj_u) else none)) else
        (bif Nat.blt pc 258 then (bif Nat.beq pc 257 then some (.pop, 1, 0, 0, 0, mj_u) else none) else
         (bif Nat.beq pc 258 then some (.aload 8, 2, 8, 0, 0, mj_u) else none))))))) else
   (bif Nat.blt pc 310 then (bif Nat.blt pc 285 then (bif Nat.blt pc 273 then (bif Nat.blt pc 267 then (bif Nat.blt pc 263 then (bif Nat.beq pc 260 then some (.invokevirtual 85, 3, 175, 0, 1274, mj_u) else none) else
        (bif Nat.blt pc 264 then (bif Nat.beq pc 263 then some (.iconst 4, 1, 0, 0, 0, .int 4) else none) else
         (bif Nat.beq pc 264 then some (.if_icmp .ge 6, 3, 270, 0, 0, mj_u) else none))) else
       (bif Nat.blt pc 270 then (bif Nat.beq pc 267 then some (.goto 76, 3, 343, 0, 0, mj_u) else none) else
        (bif Nat.blt pc 272 then (bif Nat.beq pc 270 then some (.iload 9, 2, 9, 0, 0, mj_u) else none) else
         (bif Nat.beq pc 272 then some (.iconst 4, 1, 0, 0, 0, .int 4) else none)))) else
      (bif Nat.blt pc 278 then (bif Nat.blt pc 274 then (bif Nat.beq pc 273 then some (.iload_n 1, 1, 1, 0, 0, mj_u) else none) else
        (bif Nat.blt pc 275 then (bif Nat.beq pc 274 then some (.imul, 1, 0, 0, 0, mj_u) else none) else
         (bif Nat.beq pc 275 then some (.if_icmp .le 7, 3, 282, 0, 0, mj_u) else none))) else
       (bif Nat.blt pc 282 then (bif Nat.blt pc 279 then (bif Nat.beq pc 278 then some (.iconst 1, 1, 0, 0, 0, .int 1) else none) else
         (bif Nat.beq pc 279 then some (.goto 4, 3, 283, 0, 0, mj_u) else none)) else
        (bif Nat.blt pc 283 then (bif Nat.beq pc 282 then some (.iconst 0, 1, 0, 0, 0, .int 0) else none) else
         (bif Nat.beq pc 283 then some (.istore 10, 2, 10, 0, 0, mj_u) else none))))) else
     (bif Nat.blt pc 297 then (bif Nat.blt pc 290 then (bif Nat.blt pc 286 then (bif Nat.beq pc 285 then some (.iconst 0, 1, 0, 0, 0, .int 0) else none) else
        (bif Nat.blt pc 288 then (bif Nat.beq pc 286 then some (.istore 11, 2, 11, 0, 0, mj_u) else none) else
         (bif Nat.beq pc 288 then some (.iload 11, 2, 11, 0, 0, mj_u) else none))) else
       (bif Nat.blt pc 294 then (bif Nat.blt pc 291 then (bif Nat.beq pc 290 then some (.iconst 4, 1, 0, 0, 0, .int 4) else none) else
         (bif Nat.beq pc 291 then some (.if_icmp .ge 52, 3, 343, 0, 0, mj_u) else none)) else
        (bif Nat.blt pc 295 then (bif Nat.beq pc 294 then some (.aload_n 0, 1, 0, 0, 0, mj_u) else none) else
         (bif Nat.beq pc 295 then some (.aload 6, 2, 6, 0, 0, mj_u) else none)))) else
      (bif Nat.blt pc 301 then (bif Nat.blt pc 299 then (bif Nat.beq pc 297 then some (.iload 11, 2, 11, 0, 0, mj_u) else none) else
        (bif Nat.blt pc 300 then (bif Nat.beq pc 299 then some (.iaload, 1, 0, 0, 0, mj_u) else none) else
         (bif Nat.beq pc 300 then some (.iload_n 1, 1, 1, 0, 0, mj_u) else none))) else
       (bif Nat.blt pc 306 then (bif Nat.blt pc 304 then (bif Nat.beq pc 301 then some (.invokevirtual 71, 3, 174, 0, 1194, mj_u) else none) else
         (bif Nat.beq pc 304 then some (.iload 10, 2, 10, 0, 0, mj_u) else none)) else
        (bif Nat.blt pc 309 then (bif Nat.beq pc 306 then some (.if_icmp .eq 31, 3, 337, 0, 0, mj_u) else none) else
         (bif Nat.beq pc 309 then some (.aload_n 2, 1, 2, 0, 0, mj_u) else none)))))) else
    (bif Nat.blt pc 327 then (bif Nat.blt pc 320 then (bif Nat.blt pc 314 then (bif Nat.blt pc 311 then (bif Nat.beq pc 310 then some (.iconst 2, 1, 0, 0, 0, .int 2) else none) else
        (bif Nat.blt pc 313 then (bif Nat.beq pc 311 then some (.newarray .int, 2, 0, 0, 0, mj_u) else none) else
         (bif Nat.beq pc 313 then some (.dup, 1, 0, 0, 0, mj_u) else none))) else
       (bif Nat.blt pc 317 then (bif Nat.blt pc 315 then (bif Nat.beq pc 314 then some (.iconst 0, 1, 0, 0, 0, .int 0) else none) else
         (bif Nat.beq pc 315 then some (.aload 7, 2, 7, 0, 0, mj_u) else none)) else
        (bif Nat.blt pc 319 then (bif Nat.beq pc 317 then some (.iload 11, 2, 11, 0, 0, mj_u) else none) else
         (bif Nat.beq pc 319 then some (.iconst 3, 1, 0, 0, 0, .int 3) else none)))) else
      (bif Nat.blt pc 323 then (bif Nat.blt pc 321 then (bif Nat.beq pc 320 then some (.iadd, 1, 0, 0, 0, mj_u) else none) else
        (bif Nat.blt pc 322 then (bif Nat.beq pc 321 then some (.iconst 4, 1, 0, 0, 0, .int 4) else none) else
         (bif Nat.beq pc 322 then some (.irem, 1, 0, 0, 0, mj_u) else none))) else
       (bif Nat.blt pc 325 then (bif Nat.blt pc 324 then (bif Nat.beq pc 323 then some (.iaload, 1, 0, 0, 0, mj_u) else none) else
         (bif Nat.beq pc 324 then some (.iastore, 1, 0, 0, 0, mj_u) else none)) else
        (bif Nat.blt pc 326 then (bif Nat.beq pc 325 then some (.dup, 1, 0, 0, 0, mj_u) else none) else
         (bif Nat.beq pc 326 then some (.iconst 1, 1, 0, 0, 0, .int 1) else none))))) else
     (bif Nat.blt pc 340 then (bif Nat.blt pc 332 then (bif Nat.blt pc 329 then (bif Nat.beq pc 327 then some (.aload 7, 2, 7, 0, 0, mj_u) else none) else
        (bif Nat.blt pc 331 then (bif Nat.beq pc 329 then some (.iload 11, 2, 11, 0, 0, mj_u) else none) else
         (bif Nat.beq pc 331 then some (.iaload, 1, 0, 0, 0, mj_u) else none))) else
       (bif Nat.blt pc 336 then (bif Nat.blt pc 333 then (bif Nat.beq pc 332 then some (.iastore, 1, 0, 0, 0, mj_u) else none) else
         (bif Nat.beq pc 333 then some (.invokevirtual 81, 3, 1002, 0, 1218, mj_u) else none)) else
        (bif Nat.blt pc 337 then (bif Nat.beq pc 336 then some (.pop, 1, 0, 0, 0, mj_u) else none) else
         (bif Nat.beq pc 337 then some (.iinc 11 1, 3, 11, 0, 0, .int 1) else none)))) else
      (bif Nat.blt pc 349 then (bif Nat.blt pc 343 then (bif Nat.beq pc 340 then some (.goto (-52), 3, 288, 0, 0, mj_u) else none) else
        (bif Nat.blt pc 346 then (bif Nat.beq pc 343 then some (.iinc 4 1, 3, 4, 0, 0, .int 1) else none) else
         (bif Nat.beq pc 346 then some (.goto (-323), 3, 23, 0, 0, mj_u) else none))) else
       (bif Nat.blt pc 355 then (bif Nat.blt pc 352 then (bif Nat.beq pc 349 then some (.iinc 3 1, 3, 3, 0, 0, .int 1) else none) else
         (bif Nat.beq pc 352 then some (.goto (-342), 3, 10, 0, 0, mj_u) else none)) else
        (bif Nat.blt pc 356 then (bif Nat.beq pc 355 then some (.aload_n 2, 1, 2, 0, 0, mj_u) else none) else
         (bif Nat.beq pc 356 then some (.areturn, 1, 0, 0, 0, mj_u) else none))))))))
def m_ML_pieces : mj_M := (170, prog_12_method_20_code, 12, (Option.some (Jvm.ClassFile.FieldType.object "java/util/ArrayList")), 9, 1, 1167, 1165, 1166, 56, 357, k_ML_pieces)
/-- java/util/ArrayList.<init>()V -/
def k_ArrayList_init : Nat → Option mj_I := fun pc =>
  bif Nat.blt pc 5 then (bif Nat.blt pc 1 then (bif Nat.beq pc 0 then some (.aload_n 0, 1, 0, 0, 0, mj_u) else none) else
   (bif Nat.blt pc 4 then (bif Nat.beq pc 1 then some (.invokespecial 1, 3, 172, 0, 1173, mj_u) else none) else
    (bif Nat.beq pc 4 then some (.aload_n 0, 1, 0, 0, 0, mj_u) else none))) else
  (bif Nat.blt pc 8 then (bif Nat.beq pc 5 then some (.getstatic 39, 3, 5, 0, 1180, mj_u) else none) else
   (bif Nat.blt pc 11 then (bif Nat.beq pc 8 then some (.putfield 9, 3, 11, 1, 1182, .null) else none) else
    (bif Nat.beq pc 11 then some (.return_, 1, 0, 0, 0, mj_u) else none)))
def m_ArrayList_init : mj_M := (171, prog_32_method_2_code, 1, (Option.none : Option Jvm.ClassFile.FieldType), 11, 0, 1172, 1171, 0, 65, 12, k_ArrayList_init)
/-- java/util/AbstractList.<init>()V -/
def k_AbstractList_init : Nat → Option mj_I := fun pc =>
  bif Nat.blt pc 5 then (bif Nat.blt pc 1 then (bif Nat.beq pc 0 then some (.aload_n 0, 1, 0, 0, 0, mj_u) else none) else
   (bif Nat.blt pc 4 then (bif Nat.beq pc 1 then some (.invokespecial 1, 3, 173, 0, 1176, mj_u) else none) else
    (bif Nat.beq pc 4 then some (.aload_n 0, 1, 0, 0, 0, mj_u) else none))) else
  (bif Nat.blt pc 6 then (bif Nat.beq pc 5 then some (.iconst 0, 1, 0, 0, 0, .int 0) else none) else
   (bif Nat.blt pc 9 then (bif Nat.beq pc 6 then some (.putfield 7, 3, 11, 0, 1184, .int 0) else none) else
    (bif Nat.beq pc 9 then some (.return_, 1, 0, 0, 0, mj_u) else none)))
def m_AbstractList_init : mj_M := (172, prog_31_method_1_code, 1, (Option.none : Option Jvm.ClassFile.FieldType), 15, 0, 1175, 1174, 0, 64, 10, k_AbstractList_init)
/-- java/util/AbstractCollection.<init>()V -/
def k_AbstractCollection_init : Nat → Option mj_I := fun pc =>
  bif Nat.blt pc 1 then (bif Nat.beq pc 0 then some (.aload_n 0, 1, 0, 0, 0, mj_u) else none) else
  (bif Nat.blt pc 4 then (bif Nat.beq pc 1 then some (.invokespecial 1, 3, 1000, 0, 1179, mj_u) else none) else
   (bif Nat.beq pc 4 then some (.return_, 1, 0, 0, 0, mj_u) else none))
def m_AbstractCollection_init : mj_M := (173, prog_30_method_1_code, 1, (Option.none : Option Jvm.ClassFile.FieldType), 16, 0, 1178, 1177, 0, 63, 5, k_AbstractCollection_init)
/-- WatershedMapModel$Land.isHigh(II)Z -/
def k_ML_isHigh : Nat → Option mj_I := fun pc =>
  bif Nat.blt pc 7 then (bif Nat.blt pc 4 then (bif Nat.blt pc 1 then (bif Nat.beq pc 0 then some (.aload_n 0, 1, 0, 0, 0, mj_u) else none) else
    (bif Nat.beq pc 1 then some (.getfield 18, 3, 9, 2, 895, .null) else none)) else
   (bif Nat.blt pc 5 then (bif Nat.beq pc 4 then some (.iload_n 1, 1, 1, 0, 0, mj_u) else none) else
    (bif Nat.blt pc 6 then (bif Nat.beq pc 5 then some (.iaload, 1, 0, 0, 0, mj_u) else none) else
     (bif Nat.beq pc 6 then some (.iload_n 2, 1, 2, 0, 0, mj_u) else none)))) else
  (bif Nat.blt pc 11 then (bif Nat.blt pc 10 then (bif Nat.beq pc 7 then some (.if_icmp .le 7, 3, 14, 0, 0, mj_u) else none) else
    (bif Nat.beq pc 10 then some (.iconst 1, 1, 0, 0, 0, .int 1) else none)) else
   (bif Nat.blt pc 14 then (bif Nat.beq pc 11 then some (.goto 4, 3, 15, 0, 0, mj_u) else none) else
    (bif Nat.blt pc 15 then (bif Nat.beq pc 14 then some (.iconst 0, 1, 0, 0, 0, .int 0) else none) else
     (bif Nat.beq pc 15 then some (.ireturn, 1, 0, 0, 0, mj_u) else none))))
def m_ML_isHigh : mj_M := (174, prog_12_method_19_code, 3, (Option.some Jvm.ClassFile.FieldType.boolean), 9, 2, 1197, 1196, 39, 56, 16, k_ML_isHigh)
/-- java/util/ArrayList.size()I -/
def k_ArrayList_size : Nat → Option mj_I := fun pc =>
  bif Nat.blt pc 1 then (bif Nat.beq pc 0 then some (.aload_n 0, 1, 0, 0, 0, mj_u) else none) else
  (bif Nat.blt pc 4 then (bif Nat.beq pc 1 then some (.getfield 48, 3, 11, 2, 1183, .int 0) else none) else
   (bif Nat.beq pc 4 then some (.ireturn, 1, 0, 0, 0, mj_u) else none))
def m_ArrayList_size : mj_M := (175, prog_32_method_8_code, 1, (Option.some Jvm.ClassFile.FieldType.int), 11, 0, 1277, 1275, 1276, 65, 5, k_ArrayList_size)
/-- WatershedMapModel$Land.haveOne([I[I)Z static -/
def k_ML_haveOne : Nat → Option mj_I := fun pc =>
  bif Nat.blt pc 20 then (bif Nat.blt pc 10 then (bif Nat.blt pc 4 then (bif Nat.blt pc 2 then (bif Nat.blt pc 1 then (bif Nat.beq pc 0 then some (.aload_n 0, 1, 0, 0, 0, mj_u) else none) else
      (bif Nat.beq pc 1 then some (.iconst 0, 1, 0, 0, 0, .int 0) else none)) else
     (bif Nat.blt pc 3 then (bif Nat.beq pc 2 then some (.iaload, 1, 0, 0, 0, mj_u) else none) else
      (bif Nat.beq pc 3 then some (.aload_n 1, 1, 1, 0, 0, mj_u) else none))) else
    (bif Nat.blt pc 6 then (bif Nat.blt pc 5 then (bif Nat.beq pc 4 then some (.iconst 0, 1, 0, 0, 0, .int 0) else none) else
      (bif Nat.beq pc 5 then some (.iaload, 1, 0, 0, 0, mj_u) else none)) else
     (bif Nat.blt pc 9 then (bif Nat.beq pc 6 then some (.if_icmp .eq 30, 3, 36, 0, 0, mj_u) else none) else
      (bif Nat.beq pc 9 then some (.aload_n 0, 1, 0, 0, 0, mj_u) else none)))) else
   (bif Nat.blt pc 14 then (bif Nat.blt pc 12 then (bif Nat.blt pc 11 then (bif Nat.beq pc 10 then some (.iconst 0, 1, 0, 0, 0, .int 0) else none) else
      (bif Nat.beq pc 11 then some (.iaload, 1, 0, 0, 0, mj_u) else none)) else
     (bif Nat.blt pc 13 then (bif Nat.beq pc 12 then some (.aload_n 1, 1, 1, 0, 0, mj_u) else none) else
      (bif Nat.beq pc 13 then some (.iconst 1, 1, 0, 0, 0, .int 1) else none))) else
    (bif Nat.blt pc 18 then (bif Nat.blt pc 15 then (bif Nat.beq pc 14 then some (.iaload, 1, 0, 0, 0, mj_u) else none) else
      (bif Nat.beq pc 15 then some (.if_icmp .eq 21, 3, 36, 0, 0, mj_u) else none)) else
     (bif Nat.blt pc 19 then (bif Nat.beq pc 18 then some (.aload_n 0, 1, 0, 0, 0, mj_u) else none) else
      (bif Nat.beq pc 19 then some (.iconst 1, 1, 0, 0, 0, .int 1) else none))))) else
  (bif Nat.blt pc 30 then (bif Nat.blt pc 24 then (bif Nat.blt pc 22 then (bif Nat.blt pc 21 then (bif Nat.beq pc 20 then some (.iaload, 1, 0, 0, 0, mj_u) else none) else
      (bif Nat.beq pc 21 then some (.aload_n 1, 1, 1, 0, 0, mj_u) else none)) else
     (bif Nat.blt pc 23 then (bif Nat.beq pc 22 then some (.iconst 0, 1, 0, 0, 0, .int 0) else none) else
      (bif Nat.beq pc 23 then some (.iaload, 1, 0, 0, 0, mj_u) else none))) else
    (bif Nat.blt pc 28 then (bif Nat.blt pc 27 then (bif Nat.beq pc 24 then some (.if_icmp .eq 12, 3, 36, 0, 0, mj_u) else none) else
      (bif Nat.beq pc 27 then some (.aload_n 0, 1, 0, 0, 0, mj_u) else none)) else
     (bif Nat.blt pc 29 then (bif Nat.beq pc 28 then some (.iconst 1, 1, 0, 0, 0, .int 1) else none) else
      (bif Nat.beq pc 29 then some (.iaload, 1, 0, 0, 0, mj_u) else none)))) else
   (bif Nat.blt pc 36 then (bif Nat.blt pc 32 then (bif Nat.blt pc 31 then (bif Nat.beq pc 30 then some (.aload_n 1, 1, 1, 0, 0, mj_u) else none) else
      (bif Nat.beq pc 31 then some (.iconst 1, 1, 0, 0, 0, .int 1) else none)) else
     (bif Nat.blt pc 33 then (bif Nat.beq pc 32 then some (.iaload, 1, 0, 0, 0, mj_u) else none) else
      (bif Nat.beq pc 33 then some (.if_icmp .ne 7, 3, 40, 0, 0, mj_u) else none))) else
    (bif Nat.blt pc 40 then (bif Nat.blt pc 37 then (bif Nat.beq pc 36 then some (.iconst 1, 1, 0, 0, 0, .int 1) else none) else
      (bif Nat.beq pc 37 then some (.goto 4, 3, 41, 0, 0, mj_u) else none)) else
     (bif Nat.blt pc 41 then (bif Nat.beq pc 40 then some (.iconst 0, 1, 0, 0, 0, .int 0) else none) else
      (bif Nat.beq pc 41 then some (.ireturn, 1, 0, 0, 0, mj_u) else none)))))
def m_ML_haveOne : mj_M := (176, prog_12_method_22_code, 2, (Option.some Jvm.ClassFile.FieldType.boolean), 9, 2, 1299, 1298, 0, 56, 42, k_ML_haveOne)
/-- WatershedMapModel$Land.isTwice(Ljava/util/ArrayList;I)Z static -/
def k_ML_isTwice : Nat → Option mj_I := fun pc =>
  bif Nat.blt pc 33 then (bif Nat.blt pc 14 then (bif Nat.blt pc 5 then (bif Nat.blt pc 2 then (bif Nat.blt pc 1 then (bif Nat.beq pc 0 then some (.iconst 0, 1, 0, 0, 0, .int 0) else none) else
      (bif Nat.beq pc 1 then some (.istore_n 2, 1, 2, 0, 0, mj_u) else none)) else
     (bif Nat.blt pc 3 then (bif Nat.beq pc 2 then some (.iconst 0, 1, 0, 0, 0, .int 0) else none) else
      (bif Nat.blt pc 4 then (bif Nat.beq pc 3 then some (.istore_n 3, 1, 3, 0, 0, mj_u) else none) else
       (bif Nat.beq pc 4 then some (.iload_n 3, 1, 3, 0, 0, mj_u) else none)))) else
    (bif Nat.blt pc 9 then (bif Nat.blt pc 6 then (bif Nat.beq pc 5 then some (.aload_n 0, 1, 0, 0, 0, mj_u) else none) else
      (bif Nat.beq pc 6 then some (.invokevirtual 85, 3, 175, 0, 1274, mj_u) else none)) else
     (bif Nat.blt pc 12 then (bif Nat.beq pc 9 then some (.if_icmp .ge 51, 3, 60, 0, 0, mj_u) else none) else
      (bif Nat.blt pc 13 then (bif Nat.beq pc 12 then some (.iload_n 2, 1, 2, 0, 0, mj_u) else none) else
       (bif Nat.beq pc 13 then some (.aload_n 0, 1, 0, 0, 0, mj_u) else none))))) else
   (bif Nat.blt pc 23 then (bif Nat.blt pc 18 then (bif Nat.blt pc 15 then (bif Nat.beq pc 14 then some (.iload_n 3, 1, 3, 0, 0, mj_u) else none) else
      (bif Nat.beq pc 15 then some (.invokevirtual 86, 3, 1002, 0, 1278, mj_u) else none)) else
     (bif Nat.blt pc 21 then (bif Nat.beq pc 18 then some (.checkcast 29, 3, 0, 0, 0, mj_u) else none) else
      (bif Nat.blt pc 22 then (bif Nat.beq pc 21 then some (.iconst 0, 1, 0, 0, 0, .int 0) else none) else
       (bif Nat.beq pc 22 then some (.iaload, 1, 0, 0, 0, mj_u) else none)))) else
    (bif Nat.blt pc 28 then (bif Nat.blt pc 24 then (bif Nat.beq pc 23 then some (.iload_n 1, 1, 1, 0, 0, mj_u) else none) else
      (bif Nat.blt pc 27 then (bif Nat.beq pc 24 then some (.if_icmp .ne 7, 3, 31, 0, 0, mj_u) else none) else
       (bif Nat.beq pc 27 then some (.iconst 1, 1, 0, 0, 0, .int 1) else none))) else
     (bif Nat.blt pc 31 then (bif Nat.beq pc 28 then some (.goto 4, 3, 32, 0, 0, mj_u) else none) else
      (bif Nat.blt pc 32 then (bif Nat.beq pc 31 then some (.iconst 0, 1, 0, 0, 0, .int 0) else none) else
       (bif Nat.beq pc 32 then some (.aload_n 0, 1, 0, 0, 0, mj_u) else none)))))) else
  (bif Nat.blt pc 52 then (bif Nat.blt pc 42 then (bif Nat.blt pc 37 then (bif Nat.blt pc 34 then (bif Nat.beq pc 33 then some (.iload_n 3, 1, 3, 0, 0, mj_u) else none) else
      (bif Nat.beq pc 34 then some (.invokevirtual 86, 3, 1002, 0, 1278, mj_u) else none)) else
     (bif Nat.blt pc 40 then (bif Nat.beq pc 37 then some (.checkcast 29, 3, 0, 0, 0, mj_u) else none) else
      (bif Nat.blt pc 41 then (bif Nat.beq pc 40 then some (.iconst 1, 1, 0, 0, 0, .int 1) else none) else
       (bif Nat.beq pc 41 then some (.iaload, 1, 0, 0, 0, mj_u) else none)))) else
    (bif Nat.blt pc 47 then (bif Nat.blt pc 43 then (bif Nat.beq pc 42 then some (.iload_n 1, 1, 1, 0, 0, mj_u) else none) else
      (bif Nat.blt pc 46 then (bif Nat.beq pc 43 then some (.if_icmp .ne 7, 3, 50, 0, 0, mj_u) else none) else
       (bif Nat.beq pc 46 then some (.iconst 1, 1, 0, 0, 0, .int 1) else none))) else
     (bif Nat.blt pc 50 then (bif Nat.beq pc 47 then some (.goto 4, 3, 51, 0, 0, mj_u) else none) else
      (bif Nat.blt pc 51 then (bif Nat.beq pc 50 then some (.iconst 0, 1, 0, 0, 0, .int 0) else none) else
       (bif Nat.beq pc 51 then some (.iadd, 1, 0, 0, 0, mj_u) else none))))) else
   (bif Nat.blt pc 61 then (bif Nat.blt pc 54 then (bif Nat.blt pc 53 then (bif Nat.beq pc 52 then some (.iadd, 1, 0, 0, 0, mj_u) else none) else
      (bif Nat.beq pc 53 then some (.istore_n 2, 1, 2, 0, 0, mj_u) else none)) else
     (bif Nat.blt pc 57 then (bif Nat.beq pc 54 then some (.iinc 3 1, 3, 3, 0, 0, .int 1) else none) else
      (bif Nat.blt pc 60 then (bif Nat.beq pc 57 then some (.goto (-53), 3, 4, 0, 0, mj_u) else none) else
       (bif Nat.beq pc 60 then some (.iload_n 2, 1, 2, 0, 0, mj_u) else none)))) else
    (bif Nat.blt pc 66 then (bif Nat.blt pc 62 then (bif Nat.beq pc 61 then some (.iconst 2, 1, 0, 0, 0, .int 2) else none) else
      (bif Nat.blt pc 65 then (bif Nat.beq pc 62 then some (.if_icmp .ne 7, 3, 69, 0, 0, mj_u) else none) else
       (bif Nat.beq pc 65 then some (.iconst 1, 1, 0, 0, 0, .int 1) else none))) else
     (bif Nat.blt pc 69 then (bif Nat.beq pc 66 then some (.goto 4, 3, 70, 0, 0, mj_u) else none) else
      (bif Nat.blt pc 70 then (bif Nat.beq pc 69 then some (.iconst 0, 1, 0, 0, 0, .int 0) else none) else
       (bif Nat.beq pc 70 then some (.ireturn, 1, 0, 0, 0, mj_u) else none))))))
def m_ML_isTwice : mj_M := (177, prog_12_method_23_code, 4, (Option.some Jvm.ClassFile.FieldType.boolean), 9, 2, 1302, 1301, 0, 56, 71, k_ML_isTwice)
/-- WatershedMapModel.sees(IIIII)Z -/
def k_M_sees : Nat → Option mj_I := fun pc =>
  bif Nat.blt pc 45 then (bif Nat.blt pc 21 then (bif Nat.blt pc 7 then (bif Nat.blt pc 2 then (bif Nat.blt pc 1 then (bif Nat.beq pc 0 then some (.aload_n 0, 1, 0, 0, 0, mj_u) else none) else
      (bif Nat.beq pc 1 then some (.aload_n 0, 1, 0, 0, 0, mj_u) else none)) else
     (bif Nat.blt pc 3 then (bif Nat.beq pc 2 then some (.iload_n 1, 1, 1, 0, 0, mj_u) else none) else
      (bif Nat.blt pc 4 then (bif Nat.beq pc 3 then some (.iload_n 2, 1, 2, 0, 0, mj_u) else none) else
       (bif Nat.beq pc 4 then some (.invokevirtual 48, 3, 120, 0, 941, mj_u) else none)))) else
    (bif Nat.blt pc 13 then (bif Nat.blt pc 10 then (bif Nat.beq pc 7 then some (.ifCond .ne 14, 3, 21, 0, 0, mj_u) else none) else
      (bif Nat.blt pc 11 then (bif Nat.beq pc 10 then some (.aload_n 0, 1, 0, 0, 0, mj_u) else none) else
       (bif Nat.beq pc 11 then some (.iload 4, 2, 4, 0, 0, mj_u) else none))) else
     (bif Nat.blt pc 15 then (bif Nat.beq pc 13 then some (.iload 5, 2, 5, 0, 0, mj_u) else none) else
      (bif Nat.blt pc 18 then (bif Nat.beq pc 15 then some (.invokevirtual 48, 3, 120, 0, 941, mj_u) else none) else
       (bif Nat.beq pc 18 then some (.ifCond .eq 7, 3, 25, 0, 0, mj_u) else none))))) else
   (bif Nat.blt pc 33 then (bif Nat.blt pc 26 then (bif Nat.blt pc 22 then (bif Nat.beq pc 21 then some (.iconst 1, 1, 0, 0, 0, .int 1) else none) else
      (bif Nat.blt pc 25 then (bif Nat.beq pc 22 then some (.goto 4, 3, 26, 0, 0, mj_u) else none) else
       (bif Nat.beq pc 25 then some (.iconst 0, 1, 0, 0, 0, .int 0) else none))) else
     (bif Nat.blt pc 27 then (bif Nat.beq pc 26 then some (.iconst 1, 1, 0, 0, 0, .int 1) else none) else
      (bif Nat.blt pc 30 then (bif Nat.beq pc 27 then some (.invokevirtual 52, 3, 116, 0, 925, mj_u) else none) else
       (bif Nat.beq pc 30 then some (.ifCond .ne 56, 3, 86, 0, 0, mj_u) else none)))) else
    (bif Nat.blt pc 36 then (bif Nat.blt pc 34 then (bif Nat.beq pc 33 then some (.aload_n 0, 1, 0, 0, 0, mj_u) else none) else
      (bif Nat.blt pc 35 then (bif Nat.beq pc 34 then some (.iload_n 3, 1, 3, 0, 0, mj_u) else none) else
       (bif Nat.beq pc 35 then some (.iconst 0, 1, 0, 0, 0, .int 0) else none))) else
     (bif Nat.blt pc 39 then (bif Nat.beq pc 36 then some (.sipush 500, 3, 0, 0, 0, .int 500) else none) else
      (bif Nat.blt pc 42 then (bif Nat.beq pc 39 then some (.invokestatic 41, 3, 115, 0, 922, mj_u) else none) else
       (bif Nat.beq pc 42 then some (.ifCond .ne 7, 3, 49, 0, 0, mj_u) else none)))))) else
  (bif Nat.blt pc 64 then (bif Nat.blt pc 54 then (bif Nat.blt pc 49 then (bif Nat.blt pc 46 then (bif Nat.beq pc 45 then some (.iconst 1, 1, 0, 0, 0, .int 1) else none) else
      (bif Nat.beq pc 46 then some (.goto 4, 3, 50, 0, 0, mj_u) else none)) else
     (bif Nat.blt pc 50 then (bif Nat.beq pc 49 then some (.iconst 0, 1, 0, 0, 0, .int 0) else none) else
      (bif Nat.blt pc 51 then (bif Nat.beq pc 50 then some (.iconst 2, 1, 0, 0, 0, .int 2) else none) else
       (bif Nat.beq pc 51 then some (.invokevirtual 34, 3, 117, 0, 929, mj_u) else none)))) else
    (bif Nat.blt pc 61 then (bif Nat.blt pc 57 then (bif Nat.beq pc 54 then some (.ifCond .ne 32, 3, 86, 0, 0, mj_u) else none) else
      (bif Nat.blt pc 58 then (bif Nat.beq pc 57 then some (.aload_n 0, 1, 0, 0, 0, mj_u) else none) else
       (bif Nat.beq pc 58 then some (.getfield 23, 3, 10, 1, 905, .null) else none))) else
     (bif Nat.blt pc 62 then (bif Nat.beq pc 61 then some (.aload_n 0, 1, 0, 0, 0, mj_u) else none) else
      (bif Nat.blt pc 63 then (bif Nat.beq pc 62 then some (.iload_n 1, 1, 1, 0, 0, mj_u) else none) else
       (bif Nat.beq pc 63 then some (.iload_n 2, 1, 2, 0, 0, mj_u) else none))))) else
   (bif Nat.blt pc 76 then (bif Nat.blt pc 69 then (bif Nat.blt pc 67 then (bif Nat.beq pc 64 then some (.invokevirtual 66, 3, 121, 0, 945, mj_u) else none) else
      (bif Nat.blt pc 68 then (bif Nat.beq pc 67 then some (.iload_n 3, 1, 3, 0, 0, mj_u) else none) else
       (bif Nat.beq pc 68 then some (.aload_n 0, 1, 0, 0, 0, mj_u) else none))) else
     (bif Nat.blt pc 71 then (bif Nat.beq pc 69 then some (.iload 4, 2, 4, 0, 0, mj_u) else none) else
      (bif Nat.blt pc 73 then (bif Nat.beq pc 71 then some (.iload 5, 2, 5, 0, 0, mj_u) else none) else
       (bif Nat.beq pc 73 then some (.invokevirtual 66, 3, 121, 0, 945, mj_u) else none)))) else
    (bif Nat.blt pc 83 then (bif Nat.blt pc 79 then (bif Nat.beq pc 76 then some (.invokevirtual 165, 3, 179, 0, 1307, mj_u) else none) else
      (bif Nat.blt pc 82 then (bif Nat.beq pc 79 then some (.ifCond .eq 7, 3, 86, 0, 0, mj_u) else none) else
       (bif Nat.beq pc 82 then some (.iconst 1, 1, 0, 0, 0, .int 1) else none))) else
     (bif Nat.blt pc 86 then (bif Nat.beq pc 83 then some (.goto 4, 3, 87, 0, 0, mj_u) else none) else
      (bif Nat.blt pc 87 then (bif Nat.beq pc 86 then some (.iconst 0, 1, 0, 0, 0, .int 0) else none) else
       (bif Nat.beq pc 87 then some (.ireturn, 1, 0, 0, 0, mj_u) else none))))))
def m_M_sees : mj_M := (178, prog_11_method_39_code, 6, (Option.some Jvm.ClassFile.FieldType.boolean), 10, 5, 1306, 1304, 1305, 55, 88, k_M_sees)
/-- WatershedMapModel$Land.sees(III)Z -/
def k_ML_sees : Nat → Option mj_I := fun pc =>
  bif Nat.blt pc 37 then (bif Nat.blt pc 16 then (bif Nat.blt pc 8 then (bif Nat.blt pc 2 then (bif Nat.blt pc 1 then (bif Nat.beq pc 0 then some (.aload_n 0, 1, 0, 0, 0, mj_u) else none) else
      (bif Nat.beq pc 1 then some (.iload_n 1, 1, 1, 0, 0, mj_u) else none)) else
     (bif Nat.blt pc 3 then (bif Nat.beq pc 2 then some (.iload_n 3, 1, 3, 0, 0, mj_u) else none) else
      (bif Nat.blt pc 6 then (bif Nat.beq pc 3 then some (.invokevirtual 111, 3, 131, 0, 1311, mj_u) else none) else
       (bif Nat.beq pc 6 then some (.istore 4, 2, 4, 0, 0, mj_u) else none)))) else
    (bif Nat.blt pc 13 then (bif Nat.blt pc 9 then (bif Nat.beq pc 8 then some (.aload_n 0, 1, 0, 0, 0, mj_u) else none) else
      (bif Nat.blt pc 12 then (bif Nat.beq pc 9 then some (.getfield 18, 3, 9, 2, 895, .null) else none) else
       (bif Nat.beq pc 12 then some (.iload_n 1, 1, 1, 0, 0, mj_u) else none))) else
     (bif Nat.blt pc 14 then (bif Nat.beq pc 13 then some (.iaload, 1, 0, 0, 0, mj_u) else none) else
      (bif Nat.blt pc 15 then (bif Nat.beq pc 14 then some (.iload_n 2, 1, 2, 0, 0, mj_u) else none) else
       (bif Nat.beq pc 15 then some (.iadd, 1, 0, 0, 0, mj_u) else none))))) else
   (bif Nat.blt pc 28 then (bif Nat.blt pc 21 then (bif Nat.blt pc 18 then (bif Nat.beq pc 16 then some (.istore 5, 2, 5, 0, 0, mj_u) else none) else
      (bif Nat.blt pc 19 then (bif Nat.beq pc 18 then some (.iconst 1, 1, 0, 0, 0, .int 1) else none) else
       (bif Nat.beq pc 19 then some (.istore 6, 2, 6, 0, 0, mj_u) else none))) else
     (bif Nat.blt pc 23 then (bif Nat.beq pc 21 then some (.iload 6, 2, 6, 0, 0, mj_u) else none) else
      (bif Nat.blt pc 25 then (bif Nat.beq pc 23 then some (.iload 4, 2, 4, 0, 0, mj_u) else none) else
       (bif Nat.beq pc 25 then some (.if_icmp .ge 48, 3, 73, 0, 0, mj_u) else none)))) else
    (bif Nat.blt pc 33 then (bif Nat.blt pc 29 then (bif Nat.beq pc 28 then some (.aload_n 0, 1, 0, 0, 0, mj_u) else none) else
      (bif Nat.blt pc 32 then (bif Nat.beq pc 29 then some (.getfield 18, 3, 9, 2, 895, .null) else none) else
       (bif Nat.beq pc 32 then some (.aload_n 0, 1, 0, 0, 0, mj_u) else none))) else
     (bif Nat.blt pc 34 then (bif Nat.beq pc 33 then some (.iload_n 1, 1, 1, 0, 0, mj_u) else none) else
      (bif Nat.blt pc 35 then (bif Nat.beq pc 34 then some (.iload_n 3, 1, 3, 0, 0, mj_u) else none) else
       (bif Nat.beq pc 35 then some (.iload 6, 2, 6, 0, 0, mj_u) else none)))))) else
  (bif Nat.blt pc 56 then (bif Nat.blt pc 46 then (bif Nat.blt pc 41 then (bif Nat.blt pc 40 then (bif Nat.beq pc 37 then some (.invokevirtual 114, 3, 132, 0, 1312, mj_u) else none) else
      (bif Nat.beq pc 40 then some (.iaload, 1, 0, 0, 0, mj_u) else none)) else
     (bif Nat.blt pc 43 then (bif Nat.beq pc 41 then some (.iload 4, 2, 4, 0, 0, mj_u) else none) else
      (bif Nat.blt pc 44 then (bif Nat.beq pc 43 then some (.imul, 1, 0, 0, 0, mj_u) else none) else
       (bif Nat.beq pc 44 then some (.iload 5, 2, 5, 0, 0, mj_u) else none)))) else
    (bif Nat.blt pc 51 then (bif Nat.blt pc 48 then (bif Nat.beq pc 46 then some (.iload 4, 2, 4, 0, 0, mj_u) else none) else
      (bif Nat.blt pc 50 then (bif Nat.beq pc 48 then some (.iload 6, 2, 6, 0, 0, mj_u) else none) else
       (bif Nat.beq pc 50 then some (.isub, 1, 0, 0, 0, mj_u) else none))) else
     (bif Nat.blt pc 52 then (bif Nat.beq pc 51 then some (.imul, 1, 0, 0, 0, mj_u) else none) else
      (bif Nat.blt pc 53 then (bif Nat.beq pc 52 then some (.aload_n 0, 1, 0, 0, 0, mj_u) else none) else
       (bif Nat.beq pc 53 then some (.getfield 18, 3, 9, 2, 895, .null) else none))))) else
   (bif Nat.blt pc 65 then (bif Nat.blt pc 60 then (bif Nat.blt pc 57 then (bif Nat.beq pc 56 then some (.iload_n 3, 1, 3, 0, 0, mj_u) else none) else
      (bif Nat.blt pc 58 then (bif Nat.beq pc 57 then some (.iaload, 1, 0, 0, 0, mj_u) else none) else
       (bif Nat.beq pc 58 then some (.iload 6, 2, 6, 0, 0, mj_u) else none))) else
     (bif Nat.blt pc 61 then (bif Nat.beq pc 60 then some (.imul, 1, 0, 0, 0, mj_u) else none) else
      (bif Nat.blt pc 62 then (bif Nat.beq pc 61 then some (.iadd, 1, 0, 0, 0, mj_u) else none) else
       (bif Nat.beq pc 62 then some (.if_icmp .le 5, 3, 67, 0, 0, mj_u) else none)))) else
    (bif Nat.blt pc 70 then (bif Nat.blt pc 66 then (bif Nat.beq pc 65 then some (.iconst 0, 1, 0, 0, 0, .int 0) else none) else
      (bif Nat.blt pc 67 then (bif Nat.beq pc 66 then some (.ireturn, 1, 0, 0, 0, mj_u) else none) else
       (bif Nat.beq pc 67 then some (.iinc 6 1, 3, 6, 0, 0, .int 1) else none))) else
     (bif Nat.blt pc 73 then (bif Nat.beq pc 70 then some (.goto (-49), 3, 21, 0, 0, mj_u) else none) else
      (bif Nat.blt pc 74 then (bif Nat.beq pc 73 then some (.iconst 1, 1, 0, 0, 0, .int 1) else none) else
       (bif Nat.beq pc 74 then some (.ireturn, 1, 0, 0, 0, mj_u) else none))))))
def m_ML_sees : mj_M := (179, prog_12_method_26_code, 7, (Option.some Jvm.ClassFile.FieldType.boolean), 9, 3, 1310, 1308, 1309, 56, 75, k_ML_sees)
/-- WatershedMapModel.seen(III)I -/
def k_M_seen : Nat → Option mj_I := fun pc =>
  bif Nat.blt pc 26 then (bif Nat.blt pc 11 then (bif Nat.blt pc 3 then (bif Nat.blt pc 1 then (bif Nat.beq pc 0 then some (.aload_n 0, 1, 0, 0, 0, mj_u) else none) else
     (bif Nat.blt pc 2 then (bif Nat.beq pc 1 then some (.iload_n 1, 1, 1, 0, 0, mj_u) else none) else
      (bif Nat.beq pc 2 then some (.iload_n 2, 1, 2, 0, 0, mj_u) else none))) else
    (bif Nat.blt pc 9 then (bif Nat.blt pc 6 then (bif Nat.beq pc 3 then some (.invokevirtual 63, 3, 119, 0, 937, mj_u) else none) else
      (bif Nat.beq pc 6 then some (.ifCond .ne 27, 3, 33, 0, 0, mj_u) else none)) else
     (bif Nat.blt pc 10 then (bif Nat.beq pc 9 then some (.aload_n 0, 1, 0, 0, 0, mj_u) else none) else
      (bif Nat.beq pc 10 then some (.iload_n 3, 1, 3, 0, 0, mj_u) else none)))) else
   (bif Nat.blt pc 18 then (bif Nat.blt pc 12 then (bif Nat.beq pc 11 then some (.iconst 0, 1, 0, 0, 0, .int 0) else none) else
     (bif Nat.blt pc 15 then (bif Nat.beq pc 12 then some (.sipush 500, 3, 0, 0, 0, .int 500) else none) else
      (bif Nat.beq pc 15 then some (.invokestatic 41, 3, 115, 0, 922, mj_u) else none))) else
    (bif Nat.blt pc 22 then (bif Nat.blt pc 21 then (bif Nat.beq pc 18 then some (.ifCond .ne 7, 3, 25, 0, 0, mj_u) else none) else
      (bif Nat.beq pc 21 then some (.iconst 1, 1, 0, 0, 0, .int 1) else none)) else
     (bif Nat.blt pc 25 then (bif Nat.beq pc 22 then some (.goto 4, 3, 26, 0, 0, mj_u) else none) else
      (bif Nat.beq pc 25 then some (.iconst 0, 1, 0, 0, 0, .int 0) else none))))) else
  (bif Nat.blt pc 41 then (bif Nat.blt pc 33 then (bif Nat.blt pc 27 then (bif Nat.beq pc 26 then some (.iconst 2, 1, 0, 0, 0, .int 2) else none) else
     (bif Nat.blt pc 30 then (bif Nat.beq pc 27 then some (.invokevirtual 34, 3, 117, 0, 929, mj_u) else none) else
      (bif Nat.beq pc 30 then some (.ifCond .eq 7, 3, 37, 0, 0, mj_u) else none))) else
    (bif Nat.blt pc 37 then (bif Nat.blt pc 34 then (bif Nat.beq pc 33 then some (.iconst 0, 1, 0, 0, 0, .int 0) else none) else
      (bif Nat.beq pc 34 then some (.goto 17, 3, 51, 0, 0, mj_u) else none)) else
     (bif Nat.blt pc 38 then (bif Nat.beq pc 37 then some (.aload_n 0, 1, 0, 0, 0, mj_u) else none) else
      (bif Nat.beq pc 38 then some (.getfield 23, 3, 10, 1, 905, .null) else none)))) else
   (bif Nat.blt pc 44 then (bif Nat.blt pc 42 then (bif Nat.beq pc 41 then some (.aload_n 0, 1, 0, 0, 0, mj_u) else none) else
     (bif Nat.blt pc 43 then (bif Nat.beq pc 42 then some (.iload_n 1, 1, 1, 0, 0, mj_u) else none) else
      (bif Nat.beq pc 43 then some (.iload_n 2, 1, 2, 0, 0, mj_u) else none))) else
    (bif Nat.blt pc 48 then (bif Nat.blt pc 47 then (bif Nat.beq pc 44 then some (.invokevirtual 66, 3, 121, 0, 945, mj_u) else none) else
      (bif Nat.beq pc 47 then some (.iload_n 3, 1, 3, 0, 0, mj_u) else none)) else
     (bif Nat.blt pc 51 then (bif Nat.beq pc 48 then some (.invokevirtual 168, 3, 181, 0, 1317, mj_u) else none) else
      (bif Nat.beq pc 51 then some (.ireturn, 1, 0, 0, 0, mj_u) else none)))))
def m_M_seen : mj_M := (180, prog_11_method_40_code, 4, (Option.some Jvm.ClassFile.FieldType.int), 10, 3, 1316, 1314, 1315, 55, 52, k_M_seen)
/-- WatershedMapModel$Land.seen(II)I -/
def k_ML_seen : Nat → Option mj_I := fun pc =>
  bif Nat.blt pc 18 then (bif Nat.blt pc 8 then (bif Nat.blt pc 3 then (bif Nat.blt pc 1 then (bif Nat.beq pc 0 then some (.iconst 0, 1, 0, 0, 0, .int 0) else none) else
     (bif Nat.blt pc 2 then (bif Nat.beq pc 1 then some (.istore_n 3, 1, 3, 0, 0, mj_u) else none) else
      (bif Nat.beq pc 2 then some (.iconst 0, 1, 0, 0, 0, .int 0) else none))) else
    (bif Nat.blt pc 5 then (bif Nat.beq pc 3 then some (.istore 4, 2, 4, 0, 0, mj_u) else none) else
     (bif Nat.blt pc 7 then (bif Nat.beq pc 5 then some (.iload 4, 2, 4, 0, 0, mj_u) else none) else
      (bif Nat.beq pc 7 then some (.aload_n 0, 1, 0, 0, 0, mj_u) else none)))) else
   (bif Nat.blt pc 15 then (bif Nat.blt pc 11 then (bif Nat.beq pc 8 then some (.invokevirtual 45, 3, 127, 0, 981, mj_u) else none) else
     (bif Nat.blt pc 14 then (bif Nat.beq pc 11 then some (.if_icmp .ge 28, 3, 39, 0, 0, mj_u) else none) else
      (bif Nat.beq pc 14 then some (.iload_n 3, 1, 3, 0, 0, mj_u) else none))) else
    (bif Nat.blt pc 16 then (bif Nat.beq pc 15 then some (.aload_n 0, 1, 0, 0, 0, mj_u) else none) else
     (bif Nat.blt pc 17 then (bif Nat.beq pc 16 then some (.iload_n 1, 1, 1, 0, 0, mj_u) else none) else
      (bif Nat.beq pc 17 then some (.iload_n 2, 1, 2, 0, 0, mj_u) else none))))) else
  (bif Nat.blt pc 31 then (bif Nat.blt pc 26 then (bif Nat.blt pc 20 then (bif Nat.beq pc 18 then some (.iload 4, 2, 4, 0, 0, mj_u) else none) else
     (bif Nat.blt pc 23 then (bif Nat.beq pc 20 then some (.invokevirtual 118, 3, 179, 0, 1321, mj_u) else none) else
      (bif Nat.beq pc 23 then some (.ifCond .eq 7, 3, 30, 0, 0, mj_u) else none))) else
    (bif Nat.blt pc 27 then (bif Nat.beq pc 26 then some (.iconst 1, 1, 0, 0, 0, .int 1) else none) else
     (bif Nat.blt pc 30 then (bif Nat.beq pc 27 then some (.goto 4, 3, 31, 0, 0, mj_u) else none) else
      (bif Nat.beq pc 30 then some (.iconst 0, 1, 0, 0, 0, .int 0) else none)))) else
   (bif Nat.blt pc 36 then (bif Nat.blt pc 32 then (bif Nat.beq pc 31 then some (.iadd, 1, 0, 0, 0, mj_u) else none) else
     (bif Nat.blt pc 33 then (bif Nat.beq pc 32 then some (.istore_n 3, 1, 3, 0, 0, mj_u) else none) else
      (bif Nat.beq pc 33 then some (.iinc 4 1, 3, 4, 0, 0, .int 1) else none))) else
    (bif Nat.blt pc 39 then (bif Nat.beq pc 36 then some (.goto (-31), 3, 5, 0, 0, mj_u) else none) else
     (bif Nat.blt pc 40 then (bif Nat.beq pc 39 then some (.iload_n 3, 1, 3, 0, 0, mj_u) else none) else
      (bif Nat.beq pc 40 then some (.ireturn, 1, 0, 0, 0, mj_u) else none)))))
def m_ML_seen : mj_M := (181, prog_12_method_27_code, 5, (Option.some Jvm.ClassFile.FieldType.int), 9, 2, 1320, 1318, 1319, 56, 41, k_ML_seen)
/-- WatershedMapModel.takes(IIII)I -/
def k_M_takes : Nat → Option mj_I := fun pc =>
  bif Nat.blt pc 29 then (bif Nat.blt pc 12 then (bif Nat.blt pc 4 then (bif Nat.blt pc 2 then (bif Nat.blt pc 1 then (bif Nat.beq pc 0 then some (.aload_n 0, 1, 0, 0, 0, mj_u) else none) else
      (bif Nat.beq pc 1 then some (.aload_n 0, 1, 0, 0, 0, mj_u) else none)) else
     (bif Nat.blt pc 3 then (bif Nat.beq pc 2 then some (.iload_n 1, 1, 1, 0, 0, mj_u) else none) else
      (bif Nat.beq pc 3 then some (.iload_n 2, 1, 2, 0, 0, mj_u) else none))) else
    (bif Nat.blt pc 10 then (bif Nat.blt pc 7 then (bif Nat.beq pc 4 then some (.invokevirtual 48, 3, 120, 0, 941, mj_u) else none) else
      (bif Nat.beq pc 7 then some (.ifCond .ne 13, 3, 20, 0, 0, mj_u) else none)) else
     (bif Nat.blt pc 11 then (bif Nat.beq pc 10 then some (.aload_n 0, 1, 0, 0, 0, mj_u) else none) else
      (bif Nat.beq pc 11 then some (.iload_n 3, 1, 3, 0, 0, mj_u) else none)))) else
   (bif Nat.blt pc 21 then (bif Nat.blt pc 17 then (bif Nat.blt pc 14 then (bif Nat.beq pc 12 then some (.iload 4, 2, 4, 0, 0, mj_u) else none) else
      (bif Nat.beq pc 14 then some (.invokevirtual 48, 3, 120, 0, 941, mj_u) else none)) else
     (bif Nat.blt pc 20 then (bif Nat.beq pc 17 then some (.ifCond .eq 7, 3, 24, 0, 0, mj_u) else none) else
      (bif Nat.beq pc 20 then some (.iconst 1, 1, 0, 0, 0, .int 1) else none))) else
    (bif Nat.blt pc 25 then (bif Nat.blt pc 24 then (bif Nat.beq pc 21 then some (.goto 4, 3, 25, 0, 0, mj_u) else none) else
      (bif Nat.beq pc 24 then some (.iconst 0, 1, 0, 0, 0, .int 0) else none)) else
     (bif Nat.blt pc 26 then (bif Nat.beq pc 25 then some (.iconst 1, 1, 0, 0, 0, .int 1) else none) else
      (bif Nat.beq pc 26 then some (.invokevirtual 52, 3, 116, 0, 925, mj_u) else none))))) else
  (bif Nat.blt pc 43 then (bif Nat.blt pc 37 then (bif Nat.blt pc 33 then (bif Nat.blt pc 32 then (bif Nat.beq pc 29 then some (.ifCond .eq 7, 3, 36, 0, 0, mj_u) else none) else
      (bif Nat.beq pc 32 then some (.iconst 0, 1, 0, 0, 0, .int 0) else none)) else
     (bif Nat.blt pc 36 then (bif Nat.beq pc 33 then some (.goto 24, 3, 57, 0, 0, mj_u) else none) else
      (bif Nat.beq pc 36 then some (.aload_n 0, 1, 0, 0, 0, mj_u) else none))) else
    (bif Nat.blt pc 41 then (bif Nat.blt pc 40 then (bif Nat.beq pc 37 then some (.getfield 23, 3, 10, 1, 905, .null) else none) else
      (bif Nat.beq pc 40 then some (.aload_n 0, 1, 0, 0, 0, mj_u) else none)) else
     (bif Nat.blt pc 42 then (bif Nat.beq pc 41 then some (.iload_n 1, 1, 1, 0, 0, mj_u) else none) else
      (bif Nat.beq pc 42 then some (.iload_n 2, 1, 2, 0, 0, mj_u) else none)))) else
   (bif Nat.blt pc 51 then (bif Nat.blt pc 49 then (bif Nat.blt pc 46 then (bif Nat.beq pc 43 then some (.invokevirtual 66, 3, 121, 0, 945, mj_u) else none) else
      (bif Nat.beq pc 46 then some (.invokevirtual 171, 3, 183, 0, 1326, mj_u) else none)) else
     (bif Nat.blt pc 50 then (bif Nat.beq pc 49 then some (.aload_n 0, 1, 0, 0, 0, mj_u) else none) else
      (bif Nat.beq pc 50 then some (.iload_n 3, 1, 3, 0, 0, mj_u) else none))) else
    (bif Nat.blt pc 56 then (bif Nat.blt pc 53 then (bif Nat.beq pc 51 then some (.iload 4, 2, 4, 0, 0, mj_u) else none) else
      (bif Nat.beq pc 53 then some (.invokevirtual 66, 3, 121, 0, 945, mj_u) else none)) else
     (bif Nat.blt pc 57 then (bif Nat.beq pc 56 then some (.iaload, 1, 0, 0, 0, mj_u) else none) else
      (bif Nat.beq pc 57 then some (.ireturn, 1, 0, 0, 0, mj_u) else none)))))
def m_M_takes : mj_M := (182, prog_11_method_41_code, 5, (Option.some Jvm.ClassFile.FieldType.int), 10, 4, 1325, 1323, 1324, 55, 58, k_M_takes)
/-- WatershedMapModel$Land.takes(I)[I -/
def k_ML_takes : Nat → Option mj_I := fun pc =>
  bif Nat.blt pc 90 then (bif Nat.blt pc 42 then (bif Nat.blt pc 19 then (bif Nat.blt pc 8 then (bif Nat.blt pc 4 then (bif Nat.blt pc 1 then (bif Nat.beq pc 0 then some (.aload_n 0, 1, 0, 0, 0, mj_u) else none) else
       (bif Nat.beq pc 1 then some (.invokevirtual 45, 3, 127, 0, 981, mj_u) else none)) else
      (bif Nat.blt pc 6 then (bif Nat.beq pc 4 then some (.newarray .int, 2, 0, 0, 0, mj_u) else none) else
       (bif Nat.blt pc 7 then (bif Nat.beq pc 6 then some (.astore_n 2, 1, 2, 0, 0, mj_u) else none) else
        (bif Nat.beq pc 7 then some (.aload_n 0, 1, 0, 0, 0, mj_u) else none)))) else
     (bif Nat.blt pc 14 then (bif Nat.blt pc 11 then (bif Nat.beq pc 8 then some (.invokevirtual 45, 3, 127, 0, 981, mj_u) else none) else
       (bif Nat.blt pc 13 then (bif Nat.beq pc 11 then some (.newarray .boolean, 2, 0, 0, 0, mj_u) else none) else
        (bif Nat.beq pc 13 then some (.astore_n 3, 1, 3, 0, 0, mj_u) else none))) else
      (bif Nat.blt pc 15 then (bif Nat.beq pc 14 then some (.iconst 0, 1, 0, 0, 0, .int 0) else none) else
       (bif Nat.blt pc 17 then (bif Nat.beq pc 15 then some (.istore 4, 2, 4, 0, 0, mj_u) else none) else
        (bif Nat.beq pc 17 then some (.iload 4, 2, 4, 0, 0, mj_u) else none))))) else
    (bif Nat.blt pc 31 then (bif Nat.blt pc 26 then (bif Nat.blt pc 20 then (bif Nat.beq pc 19 then some (.aload_n 0, 1, 0, 0, 0, mj_u) else none) else
       (bif Nat.blt pc 23 then (bif Nat.beq pc 20 then some (.invokevirtual 45, 3, 127, 0, 981, mj_u) else none) else
        (bif Nat.beq pc 23 then some (.if_icmp .ge 25, 3, 48, 0, 0, mj_u) else none))) else
      (bif Nat.blt pc 27 then (bif Nat.beq pc 26 then some (.aload_n 2, 1, 2, 0, 0, mj_u) else none) else
       (bif Nat.blt pc 29 then (bif Nat.beq pc 27 then some (.iload 4, 2, 4, 0, 0, mj_u) else none) else
        (bif Nat.beq pc 29 then some (.iload 4, 2, 4, 0, 0, mj_u) else none)))) else
     (bif Nat.blt pc 36 then (bif Nat.blt pc 32 then (bif Nat.beq pc 31 then some (.iload_n 1, 1, 1, 0, 0, mj_u) else none) else
       (bif Nat.blt pc 35 then (bif Nat.beq pc 32 then some (.if_icmp .ne 7, 3, 39, 0, 0, mj_u) else none) else
        (bif Nat.beq pc 35 then some (.iconst 0, 1, 0, 0, 0, .int 0) else none))) else
      (bif Nat.blt pc 39 then (bif Nat.beq pc 36 then some (.goto 5, 3, 41, 0, 0, mj_u) else none) else
       (bif Nat.blt pc 41 then (bif Nat.beq pc 39 then some (.ldc 122, 2, 0, 0, 1330, .int 2147483647) else none) else
        (bif Nat.beq pc 41 then some (.iastore, 1, 0, 0, 0, mj_u) else none)))))) else
   (bif Nat.blt pc 66 then (bif Nat.blt pc 54 then (bif Nat.blt pc 49 then (bif Nat.blt pc 45 then (bif Nat.beq pc 42 then some (.iinc 4 1, 3, 4, 0, 0, .int 1) else none) else
       (bif Nat.blt pc 48 then (bif Nat.beq pc 45 then some (.goto (-28), 3, 17, 0, 0, mj_u) else none) else
        (bif Nat.beq pc 48 then some (.iconst 0, 1, 0, 0, 0, .int 0) else none))) else
      (bif Nat.blt pc 51 then (bif Nat.beq pc 49 then some (.istore 4, 2, 4, 0, 0, mj_u) else none) else
       (bif Nat.blt pc 53 then (bif Nat.beq pc 51 then some (.iload 4, 2, 4, 0, 0, mj_u) else none) else
        (bif Nat.beq pc 53 then some (.aload_n 0, 1, 0, 0, 0, mj_u) else none)))) else
     (bif Nat.blt pc 61 then (bif Nat.blt pc 57 then (bif Nat.beq pc 54 then some (.invokevirtual 45, 3, 127, 0, 981, mj_u) else none) else
       (bif Nat.blt pc 60 then (bif Nat.beq pc 57 then some (.if_icmp .ge 119, 3, 176, 0, 0, mj_u) else none) else
        (bif Nat.beq pc 60 then some (.iconst (-1), 1, 0, 0, 0, .int (-1)) else none))) else
      (bif Nat.blt pc 63 then (bif Nat.beq pc 61 then some (.istore 5, 2, 5, 0, 0, mj_u) else none) else
       (bif Nat.blt pc 64 then (bif Nat.beq pc 63 then some (.iconst 0, 1, 0, 0, 0, .int 0) else none) else
        (bif Nat.beq pc 64 then some (.istore 6, 2, 6, 0, 0, mj_u) else none))))) else
    (bif Nat.blt pc 78 then (bif Nat.blt pc 72 then (bif Nat.blt pc 68 then (bif Nat.beq pc 66 then some (.iload 6, 2, 6, 0, 0, mj_u) else none) else
       (bif Nat.blt pc 69 then (bif Nat.beq pc 68 then some (.aload_n 0, 1, 0, 0, 0, mj_u) else none) else
        (bif Nat.beq pc 69 then some (.invokevirtual 45, 3, 127, 0, 981, mj_u) else none))) else
      (bif Nat.blt pc 75 then (bif Nat.beq pc 72 then some (.if_icmp .ge 36, 3, 108, 0, 0, mj_u) else none) else
       (bif Nat.blt pc 76 then (bif Nat.beq pc 75 then some (.aload_n 3, 1, 3, 0, 0, mj_u) else none) else
        (bif Nat.beq pc 76 then some (.iload 6, 2, 6, 0, 0, mj_u) else none)))) else
     (bif Nat.blt pc 84 then (bif Nat.blt pc 79 then (bif Nat.beq pc 78 then some (.baload, 1, 0, 0, 0, mj_u) else none) else
       (bif Nat.blt pc 82 then (bif Nat.beq pc 79 then some (.ifCond .ne 23, 3, 102, 0, 0, mj_u) else none) else
        (bif Nat.beq pc 82 then some (.iload 5, 2, 5, 0, 0, mj_u) else none))) else
      (bif Nat.blt pc 87 then (bif Nat.beq pc 84 then some (.ifCond .lt 14, 3, 98, 0, 0, mj_u) else none) else
       (bif Nat.blt pc 88 then (bif Nat.beq pc 87 then some (.aload_n 2, 1, 2, 0, 0, mj_u) else none) else
        (bif Nat.beq pc 88 then some (.iload 6, 2, 6, 0, 0, mj_u) else none))))))) else
  (bif Nat.blt pc 133 then (bif Nat.blt pc 111 then (bif Nat.blt pc 98 then (bif Nat.blt pc 92 then (bif Nat.blt pc 91 then (bif Nat.beq pc 90 then some (.iaload, 1, 0, 0, 0, mj_u) else none) else
       (bif Nat.beq pc 91 then some (.aload_n 2, 1, 2, 0, 0, mj_u) else none)) else
      (bif Nat.blt pc 94 then (bif Nat.beq pc 92 then some (.iload 5, 2, 5, 0, 0, mj_u) else none) else
       (bif Nat.blt pc 95 then (bif Nat.beq pc 94 then some (.iaload, 1, 0, 0, 0, mj_u) else none) else
        (bif Nat.beq pc 95 then some (.if_icmp .ge 7, 3, 102, 0, 0, mj_u) else none)))) else
     (bif Nat.blt pc 105 then (bif Nat.blt pc 100 then (bif Nat.beq pc 98 then some (.iload 6, 2, 6, 0, 0, mj_u) else none) else
       (bif Nat.blt pc 102 then (bif Nat.beq pc 100 then some (.istore 5, 2, 5, 0, 0, mj_u) else none) else
        (bif Nat.beq pc 102 then some (.iinc 6 1, 3, 6, 0, 0, .int 1) else none))) else
      (bif Nat.blt pc 108 then (bif Nat.beq pc 105 then some (.goto (-39), 3, 66, 0, 0, mj_u) else none) else
       (bif Nat.blt pc 109 then (bif Nat.beq pc 108 then some (.aload_n 3, 1, 3, 0, 0, mj_u) else none) else
        (bif Nat.beq pc 109 then some (.iload 5, 2, 5, 0, 0, mj_u) else none))))) else
    (bif Nat.blt pc 120 then (bif Nat.blt pc 114 then (bif Nat.blt pc 112 then (bif Nat.beq pc 111 then some (.iconst 1, 1, 0, 0, 0, .int 1) else none) else
       (bif Nat.blt pc 113 then (bif Nat.beq pc 112 then some (.bastore, 1, 0, 0, 0, mj_u) else none) else
        (bif Nat.beq pc 113 then some (.iconst 0, 1, 0, 0, 0, .int 0) else none))) else
      (bif Nat.blt pc 116 then (bif Nat.beq pc 114 then some (.istore 6, 2, 6, 0, 0, mj_u) else none) else
       (bif Nat.blt pc 118 then (bif Nat.beq pc 116 then some (.iload 6, 2, 6, 0, 0, mj_u) else none) else
        (bif Nat.beq pc 118 then some (.bipush 8, 2, 0, 0, 0, .int 8) else none)))) else
     (bif Nat.blt pc 126 then (bif Nat.blt pc 123 then (bif Nat.beq pc 120 then some (.if_icmp .ge 50, 3, 170, 0, 0, mj_u) else none) else
       (bif Nat.blt pc 124 then (bif Nat.beq pc 123 then some (.aload_n 0, 1, 0, 0, 0, mj_u) else none) else
        (bif Nat.beq pc 124 then some (.iload 5, 2, 5, 0, 0, mj_u) else none))) else
      (bif Nat.blt pc 128 then (bif Nat.beq pc 126 then some (.iload 6, 2, 6, 0, 0, mj_u) else none) else
       (bif Nat.blt pc 131 then (bif Nat.beq pc 128 then some (.invokevirtual 53, 3, 134, 0, 1037, mj_u) else none) else
        (bif Nat.beq pc 131 then some (.istore 7, 2, 7, 0, 0, mj_u) else none)))))) else
   (bif Nat.blt pc 152 then (bif Nat.blt pc 144 then (bif Nat.blt pc 139 then (bif Nat.blt pc 135 then (bif Nat.beq pc 133 then some (.iload 7, 2, 7, 0, 0, mj_u) else none) else
       (bif Nat.blt pc 138 then (bif Nat.beq pc 135 then some (.ifCond .lt 29, 3, 164, 0, 0, mj_u) else none) else
        (bif Nat.beq pc 138 then some (.aload_n 2, 1, 2, 0, 0, mj_u) else none))) else
      (bif Nat.blt pc 141 then (bif Nat.beq pc 139 then some (.iload 7, 2, 7, 0, 0, mj_u) else none) else
       (bif Nat.blt pc 142 then (bif Nat.beq pc 141 then some (.aload_n 2, 1, 2, 0, 0, mj_u) else none) else
        (bif Nat.beq pc 142 then some (.iload 7, 2, 7, 0, 0, mj_u) else none)))) else
     (bif Nat.blt pc 148 then (bif Nat.blt pc 145 then (bif Nat.beq pc 144 then some (.iaload, 1, 0, 0, 0, mj_u) else none) else
       (bif Nat.blt pc 146 then (bif Nat.beq pc 145 then some (.aload_n 2, 1, 2, 0, 0, mj_u) else none) else
        (bif Nat.beq pc 146 then some (.iload 5, 2, 5, 0, 0, mj_u) else none))) else
      (bif Nat.blt pc 149 then (bif Nat.beq pc 148 then some (.iaload, 1, 0, 0, 0, mj_u) else none) else
       (bif Nat.blt pc 150 then (bif Nat.beq pc 149 then some (.aload_n 0, 1, 0, 0, 0, mj_u) else none) else
        (bif Nat.beq pc 150 then some (.iload 5, 2, 5, 0, 0, mj_u) else none))))) else
    (bif Nat.blt pc 164 then (bif Nat.blt pc 159 then (bif Nat.blt pc 154 then (bif Nat.beq pc 152 then some (.iload 6, 2, 6, 0, 0, mj_u) else none) else
       (bif Nat.blt pc 156 then (bif Nat.beq pc 154 then some (.iload 7, 2, 7, 0, 0, mj_u) else none) else
        (bif Nat.beq pc 156 then some (.invokevirtual 123, 3, 184, 0, 1331, mj_u) else none))) else
      (bif Nat.blt pc 160 then (bif Nat.beq pc 159 then some (.iadd, 1, 0, 0, 0, mj_u) else none) else
       (bif Nat.blt pc 163 then (bif Nat.beq pc 160 then some (.invokestatic 36, 3, 59, 0, 1054, mj_u) else none) else
        (bif Nat.beq pc 163 then some (.iastore, 1, 0, 0, 0, mj_u) else none)))) else
     (bif Nat.blt pc 173 then (bif Nat.blt pc 167 then (bif Nat.beq pc 164 then some (.iinc 6 1, 3, 6, 0, 0, .int 1) else none) else
       (bif Nat.blt pc 170 then (bif Nat.beq pc 167 then some (.goto (-51), 3, 116, 0, 0, mj_u) else none) else
        (bif Nat.beq pc 170 then some (.iinc 4 1, 3, 4, 0, 0, .int 1) else none))) else
      (bif Nat.blt pc 176 then (bif Nat.beq pc 173 then some (.goto (-122), 3, 51, 0, 0, mj_u) else none) else
       (bif Nat.blt pc 177 then (bif Nat.beq pc 176 then some (.aload_n 2, 1, 2, 0, 0, mj_u) else none) else
        (bif Nat.beq pc 177 then some (.areturn, 1, 0, 0, 0, mj_u) else none)))))))
def m_ML_takes : mj_M := (183, prog_12_method_29_code, 8, (Option.some (Jvm.ClassFile.FieldType.array Jvm.ClassFile.FieldType.int)), 9, 1, 1329, 1327, 1328, 56, 178, k_ML_takes)
/-- WatershedMapModel$Land.step(III)I -/
def k_ML_step : Nat → Option mj_I := fun pc =>
  bif Nat.blt pc 17 then (bif Nat.blt pc 6 then (bif Nat.blt pc 2 then (bif Nat.blt pc 1 then (bif Nat.beq pc 0 then some (.iload_n 2, 1, 2, 0, 0, mj_u) else none) else
     (bif Nat.beq pc 1 then some (.iconst 2, 1, 0, 0, 0, .int 2) else none)) else
    (bif Nat.blt pc 3 then (bif Nat.beq pc 2 then some (.irem, 1, 0, 0, 0, mj_u) else none) else
     (bif Nat.beq pc 3 then some (.ifCond .ne 8, 3, 11, 0, 0, mj_u) else none))) else
   (bif Nat.blt pc 11 then (bif Nat.blt pc 8 then (bif Nat.beq pc 6 then some (.bipush 10, 2, 0, 0, 0, .int 10) else none) else
     (bif Nat.beq pc 8 then some (.goto 5, 3, 13, 0, 0, mj_u) else none)) else
    (bif Nat.blt pc 13 then (bif Nat.beq pc 11 then some (.bipush 14, 2, 0, 0, 0, .int 14) else none) else
     (bif Nat.blt pc 14 then (bif Nat.beq pc 13 then some (.aload_n 0, 1, 0, 0, 0, mj_u) else none) else
      (bif Nat.beq pc 14 then some (.getfield 18, 3, 9, 2, 895, .null) else none))))) else
  (bif Nat.blt pc 24 then (bif Nat.blt pc 19 then (bif Nat.blt pc 18 then (bif Nat.beq pc 17 then some (.iload_n 1, 1, 1, 0, 0, mj_u) else none) else
     (bif Nat.beq pc 18 then some (.iaload, 1, 0, 0, 0, mj_u) else none)) else
    (bif Nat.blt pc 20 then (bif Nat.beq pc 19 then some (.aload_n 0, 1, 0, 0, 0, mj_u) else none) else
     (bif Nat.blt pc 23 then (bif Nat.beq pc 20 then some (.getfield 18, 3, 9, 2, 895, .null) else none) else
      (bif Nat.beq pc 23 then some (.iload_n 3, 1, 3, 0, 0, mj_u) else none)))) else
   (bif Nat.blt pc 26 then (bif Nat.blt pc 25 then (bif Nat.beq pc 24 then some (.iaload, 1, 0, 0, 0, mj_u) else none) else
     (bif Nat.beq pc 25 then some (.isub, 1, 0, 0, 0, mj_u) else none)) else
    (bif Nat.blt pc 29 then (bif Nat.beq pc 26 then some (.invokestatic 105, 3, 54, 0, 1002, mj_u) else none) else
     (bif Nat.blt pc 30 then (bif Nat.beq pc 29 then some (.iadd, 1, 0, 0, 0, mj_u) else none) else
      (bif Nat.beq pc 30 then some (.ireturn, 1, 0, 0, 0, mj_u) else none)))))
def m_ML_step : mj_M := (184, prog_12_method_28_code, 4, (Option.some Jvm.ClassFile.FieldType.int), 9, 3, 1334, 1333, 43, 56, 31, k_ML_step)
/-- WatershedMapModel.way(IIIII)I -/
def k_M_way : Nat → Option mj_I := fun pc =>
  bif Nat.blt pc 42 then (bif Nat.blt pc 20 then (bif Nat.blt pc 7 then (bif Nat.blt pc 2 then (bif Nat.blt pc 1 then (bif Nat.beq pc 0 then some (.aload_n 0, 1, 0, 0, 0, mj_u) else none) else
      (bif Nat.beq pc 1 then some (.aload_n 0, 1, 0, 0, 0, mj_u) else none)) else
     (bif Nat.blt pc 3 then (bif Nat.beq pc 2 then some (.iload_n 1, 1, 1, 0, 0, mj_u) else none) else
      (bif Nat.blt pc 4 then (bif Nat.beq pc 3 then some (.iload_n 2, 1, 2, 0, 0, mj_u) else none) else
       (bif Nat.beq pc 4 then some (.invokevirtual 48, 3, 120, 0, 941, mj_u) else none)))) else
    (bif Nat.blt pc 12 then (bif Nat.blt pc 10 then (bif Nat.beq pc 7 then some (.ifCond .ne 13, 3, 20, 0, 0, mj_u) else none) else
      (bif Nat.blt pc 11 then (bif Nat.beq pc 10 then some (.aload_n 0, 1, 0, 0, 0, mj_u) else none) else
       (bif Nat.beq pc 11 then some (.iload_n 3, 1, 3, 0, 0, mj_u) else none))) else
     (bif Nat.blt pc 14 then (bif Nat.beq pc 12 then some (.iload 4, 2, 4, 0, 0, mj_u) else none) else
      (bif Nat.blt pc 17 then (bif Nat.beq pc 14 then some (.invokevirtual 48, 3, 120, 0, 941, mj_u) else none) else
       (bif Nat.beq pc 17 then some (.ifCond .eq 7, 3, 24, 0, 0, mj_u) else none))))) else
   (bif Nat.blt pc 29 then (bif Nat.blt pc 24 then (bif Nat.blt pc 21 then (bif Nat.beq pc 20 then some (.iconst 1, 1, 0, 0, 0, .int 1) else none) else
      (bif Nat.beq pc 21 then some (.goto 4, 3, 25, 0, 0, mj_u) else none)) else
     (bif Nat.blt pc 25 then (bif Nat.beq pc 24 then some (.iconst 0, 1, 0, 0, 0, .int 0) else none) else
      (bif Nat.blt pc 26 then (bif Nat.beq pc 25 then some (.iconst 1, 1, 0, 0, 0, .int 1) else none) else
       (bif Nat.beq pc 26 then some (.invokevirtual 52, 3, 116, 0, 925, mj_u) else none)))) else
    (bif Nat.blt pc 35 then (bif Nat.blt pc 32 then (bif Nat.beq pc 29 then some (.ifCond .ne 21, 3, 50, 0, 0, mj_u) else none) else
      (bif Nat.blt pc 33 then (bif Nat.beq pc 32 then some (.aload_n 0, 1, 0, 0, 0, mj_u) else none) else
       (bif Nat.beq pc 33 then some (.iload 5, 2, 5, 0, 0, mj_u) else none))) else
     (bif Nat.blt pc 38 then (bif Nat.beq pc 35 then some (.ifCond .ge 7, 3, 42, 0, 0, mj_u) else none) else
      (bif Nat.blt pc 39 then (bif Nat.beq pc 38 then some (.iconst 1, 1, 0, 0, 0, .int 1) else none) else
       (bif Nat.beq pc 39 then some (.goto 4, 3, 43, 0, 0, mj_u) else none)))))) else
  (bif Nat.blt pc 61 then (bif Nat.blt pc 51 then (bif Nat.blt pc 44 then (bif Nat.blt pc 43 then (bif Nat.beq pc 42 then some (.iconst 0, 1, 0, 0, 0, .int 0) else none) else
      (bif Nat.beq pc 43 then some (.iconst 2, 1, 0, 0, 0, .int 2) else none)) else
     (bif Nat.blt pc 47 then (bif Nat.beq pc 44 then some (.invokevirtual 34, 3, 117, 0, 929, mj_u) else none) else
      (bif Nat.blt pc 50 then (bif Nat.beq pc 47 then some (.ifCond .eq 7, 3, 54, 0, 0, mj_u) else none) else
       (bif Nat.beq pc 50 then some (.iconst 0, 1, 0, 0, 0, .int 0) else none)))) else
    (bif Nat.blt pc 58 then (bif Nat.blt pc 54 then (bif Nat.beq pc 51 then some (.goto 35, 3, 86, 0, 0, mj_u) else none) else
      (bif Nat.blt pc 55 then (bif Nat.beq pc 54 then some (.aload_n 0, 1, 0, 0, 0, mj_u) else none) else
       (bif Nat.beq pc 55 then some (.getfield 23, 3, 10, 1, 905, .null) else none))) else
     (bif Nat.blt pc 59 then (bif Nat.beq pc 58 then some (.aload_n 0, 1, 0, 0, 0, mj_u) else none) else
      (bif Nat.blt pc 60 then (bif Nat.beq pc 59 then some (.iload_n 1, 1, 1, 0, 0, mj_u) else none) else
       (bif Nat.beq pc 60 then some (.iload_n 2, 1, 2, 0, 0, mj_u) else none))))) else
   (bif Nat.blt pc 73 then (bif Nat.blt pc 66 then (bif Nat.blt pc 64 then (bif Nat.beq pc 61 then some (.invokevirtual 66, 3, 121, 0, 945, mj_u) else none) else
      (bif Nat.blt pc 65 then (bif Nat.beq pc 64 then some (.aload_n 0, 1, 0, 0, 0, mj_u) else none) else
       (bif Nat.beq pc 65 then some (.iload_n 3, 1, 3, 0, 0, mj_u) else none))) else
     (bif Nat.blt pc 68 then (bif Nat.beq pc 66 then some (.iload 4, 2, 4, 0, 0, mj_u) else none) else
      (bif Nat.blt pc 71 then (bif Nat.beq pc 68 then some (.invokevirtual 66, 3, 121, 0, 945, mj_u) else none) else
       (bif Nat.beq pc 71 then some (.iload 5, 2, 5, 0, 0, mj_u) else none)))) else
    (bif Nat.blt pc 80 then (bif Nat.blt pc 74 then (bif Nat.beq pc 73 then some (.aload_n 0, 1, 0, 0, 0, mj_u) else none) else
      (bif Nat.blt pc 77 then (bif Nat.beq pc 74 then some (.getfield 23, 3, 10, 1, 905, .null) else none) else
       (bif Nat.beq pc 77 then some (.invokevirtual 96, 3, 127, 0, 1012, mj_u) else none))) else
     (bif Nat.blt pc 83 then (bif Nat.beq pc 80 then some (.invokestatic 3, 3, 59, 0, 971, mj_u) else none) else
      (bif Nat.blt pc 86 then (bif Nat.beq pc 83 then some (.invokevirtual 174, 3, 186, 0, 1339, mj_u) else none) else
       (bif Nat.beq pc 86 then some (.ireturn, 1, 0, 0, 0, mj_u) else none))))))
def m_M_way : mj_M := (185, prog_11_method_42_code, 6, (Option.some Jvm.ClassFile.FieldType.int), 10, 5, 1338, 1336, 1337, 55, 87, k_M_way)
/-- WatershedMapModel$Land.way(III)I -/
def k_ML_way : Nat → Option mj_I := fun pc =>
  bif Nat.blt pc 52 then (bif Nat.blt pc 25 then (bif Nat.blt pc 11 then (bif Nat.blt pc 5 then (bif Nat.blt pc 1 then (bif Nat.beq pc 0 then some (.aload_n 0, 1, 0, 0, 0, mj_u) else none) else
      (bif Nat.blt pc 2 then (bif Nat.beq pc 1 then some (.iload_n 1, 1, 1, 0, 0, mj_u) else none) else
       (bif Nat.beq pc 2 then some (.invokevirtual 126, 3, 183, 0, 1343, mj_u) else none))) else
     (bif Nat.blt pc 8 then (bif Nat.blt pc 7 then (bif Nat.beq pc 5 then some (.astore 4, 2, 4, 0, 0, mj_u) else none) else
       (bif Nat.beq pc 7 then some (.iload_n 2, 1, 2, 0, 0, mj_u) else none)) else
      (bif Nat.blt pc 10 then (bif Nat.beq pc 8 then some (.istore 5, 2, 5, 0, 0, mj_u) else none) else
       (bif Nat.beq pc 10 then some (.iconst 0, 1, 0, 0, 0, .int 0) else none)))) else
    (bif Nat.blt pc 16 then (bif Nat.blt pc 13 then (bif Nat.beq pc 11 then some (.istore 6, 2, 6, 0, 0, mj_u) else none) else
      (bif Nat.blt pc 15 then (bif Nat.beq pc 13 then some (.iload 6, 2, 6, 0, 0, mj_u) else none) else
       (bif Nat.beq pc 15 then some (.iload_n 3, 1, 3, 0, 0, mj_u) else none))) else
     (bif Nat.blt pc 21 then (bif Nat.blt pc 19 then (bif Nat.beq pc 16 then some (.if_icmp .ge 95, 3, 111, 0, 0, mj_u) else none) else
       (bif Nat.beq pc 19 then some (.iload 5, 2, 5, 0, 0, mj_u) else none)) else
      (bif Nat.blt pc 22 then (bif Nat.beq pc 21 then some (.iload_n 1, 1, 1, 0, 0, mj_u) else none) else
       (bif Nat.beq pc 22 then some (.if_icmp .ne 5, 3, 27, 0, 0, mj_u) else none))))) else
   (bif Nat.blt pc 35 then (bif Nat.blt pc 28 then (bif Nat.blt pc 26 then (bif Nat.beq pc 25 then some (.iconst (-1), 1, 0, 0, 0, .int (-1)) else none) else
      (bif Nat.blt pc 27 then (bif Nat.beq pc 26 then some (.ireturn, 1, 0, 0, 0, mj_u) else none) else
       (bif Nat.beq pc 27 then some (.iconst (-1), 1, 0, 0, 0, .int (-1)) else none))) else
     (bif Nat.blt pc 31 then (bif Nat.blt pc 30 then (bif Nat.beq pc 28 then some (.istore 7, 2, 7, 0, 0, mj_u) else none) else
       (bif Nat.beq pc 30 then some (.iconst 0, 1, 0, 0, 0, .int 0) else none)) else
      (bif Nat.blt pc 33 then (bif Nat.beq pc 31 then some (.istore 8, 2, 8, 0, 0, mj_u) else none) else
       (bif Nat.beq pc 33 then some (.iload 8, 2, 8, 0, 0, mj_u) else none)))) else
    (bif Nat.blt pc 43 then (bif Nat.blt pc 40 then (bif Nat.blt pc 37 then (bif Nat.beq pc 35 then some (.bipush 8, 2, 0, 0, 0, .int 8) else none) else
       (bif Nat.beq pc 37 then some (.if_icmp .ge 64, 3, 101, 0, 0, mj_u) else none)) else
      (bif Nat.blt pc 41 then (bif Nat.beq pc 40 then some (.aload_n 0, 1, 0, 0, 0, mj_u) else none) else
       (bif Nat.beq pc 41 then some (.iload 5, 2, 5, 0, 0, mj_u) else none))) else
     (bif Nat.blt pc 48 then (bif Nat.blt pc 45 then (bif Nat.beq pc 43 then some (.iload 8, 2, 8, 0, 0, mj_u) else none) else
       (bif Nat.beq pc 45 then some (.invokevirtual 53, 3, 134, 0, 1037, mj_u) else none)) else
      (bif Nat.blt pc 50 then (bif Nat.beq pc 48 then some (.istore 9, 2, 9, 0, 0, mj_u) else none) else
       (bif Nat.beq pc 50 then some (.iload 9, 2, 9, 0, 0, mj_u) else none)))))) else
  (bif Nat.blt pc 79 then (bif Nat.blt pc 65 then (bif Nat.blt pc 59 then (bif Nat.blt pc 55 then (bif Nat.beq pc 52 then some (.ifCond .lt 43, 3, 95, 0, 0, mj_u) else none) else
      (bif Nat.blt pc 57 then (bif Nat.beq pc 55 then some (.aload 4, 2, 4, 0, 0, mj_u) else none) else
       (bif Nat.beq pc 57 then some (.iload 9, 2, 9, 0, 0, mj_u) else none))) else
     (bif Nat.blt pc 61 then (bif Nat.blt pc 60 then (bif Nat.beq pc 59 then some (.iaload, 1, 0, 0, 0, mj_u) else none) else
       (bif Nat.beq pc 60 then some (.aload_n 0, 1, 0, 0, 0, mj_u) else none)) else
      (bif Nat.blt pc 63 then (bif Nat.beq pc 61 then some (.iload 9, 2, 9, 0, 0, mj_u) else none) else
       (bif Nat.beq pc 63 then some (.iload 8, 2, 8, 0, 0, mj_u) else none)))) else
    (bif Nat.blt pc 71 then (bif Nat.blt pc 67 then (bif Nat.beq pc 65 then some (.iload 5, 2, 5, 0, 0, mj_u) else none) else
      (bif Nat.blt pc 70 then (bif Nat.beq pc 67 then some (.invokevirtual 123, 3, 184, 0, 1331, mj_u) else none) else
       (bif Nat.beq pc 70 then some (.iadd, 1, 0, 0, 0, mj_u) else none))) else
     (bif Nat.blt pc 75 then (bif Nat.blt pc 73 then (bif Nat.beq pc 71 then some (.aload 4, 2, 4, 0, 0, mj_u) else none) else
       (bif Nat.beq pc 73 then some (.iload 5, 2, 5, 0, 0, mj_u) else none)) else
      (bif Nat.blt pc 76 then (bif Nat.beq pc 75 then some (.iaload, 1, 0, 0, 0, mj_u) else none) else
       (bif Nat.beq pc 76 then some (.if_icmp .ne 19, 3, 95, 0, 0, mj_u) else none))))) else
   (bif Nat.blt pc 95 then (bif Nat.blt pc 86 then (bif Nat.blt pc 81 then (bif Nat.beq pc 79 then some (.iload 7, 2, 7, 0, 0, mj_u) else none) else
      (bif Nat.blt pc 84 then (bif Nat.beq pc 81 then some (.ifCond .lt 10, 3, 91, 0, 0, mj_u) else none) else
       (bif Nat.beq pc 84 then some (.iload 9, 2, 9, 0, 0, mj_u) else none))) else
     (bif Nat.blt pc 91 then (bif Nat.blt pc 88 then (bif Nat.beq pc 86 then some (.iload 7, 2, 7, 0, 0, mj_u) else none) else
       (bif Nat.beq pc 88 then some (.if_icmp .ge 7, 3, 95, 0, 0, mj_u) else none)) else
      (bif Nat.blt pc 93 then (bif Nat.beq pc 91 then some (.iload 9, 2, 9, 0, 0, mj_u) else none) else
       (bif Nat.beq pc 93 then some (.istore 7, 2, 7, 0, 0, mj_u) else none)))) else
    (bif Nat.blt pc 105 then (bif Nat.blt pc 101 then (bif Nat.blt pc 98 then (bif Nat.beq pc 95 then some (.iinc 8 1, 3, 8, 0, 0, .int 1) else none) else
       (bif Nat.beq pc 98 then some (.goto (-65), 3, 33, 0, 0, mj_u) else none)) else
      (bif Nat.blt pc 103 then (bif Nat.beq pc 101 then some (.iload 7, 2, 7, 0, 0, mj_u) else none) else
       (bif Nat.beq pc 103 then some (.istore 5, 2, 5, 0, 0, mj_u) else none))) else
     (bif Nat.blt pc 111 then (bif Nat.blt pc 108 then (bif Nat.beq pc 105 then some (.iinc 6 1, 3, 6, 0, 0, .int 1) else none) else
       (bif Nat.beq pc 108 then some (.goto (-95), 3, 13, 0, 0, mj_u) else none)) else
      (bif Nat.blt pc 113 then (bif Nat.beq pc 111 then some (.iload 5, 2, 5, 0, 0, mj_u) else none) else
       (bif Nat.beq pc 113 then some (.ireturn, 1, 0, 0, 0, mj_u) else none))))))
def m_ML_way : mj_M := (186, prog_12_method_30_code, 10, (Option.some Jvm.ClassFile.FieldType.int), 9, 3, 1342, 1340, 1341, 56, 114, k_ML_way)
/-- WatershedMapModel.steepness()D -/
def k_M_steepness : Nat → Option mj_I := fun pc =>
  bif Nat.blt pc 5 then (bif Nat.blt pc 1 then (bif Nat.beq pc 0 then some (.aload_n 0, 1, 0, 0, 0, mj_u) else none) else
   (bif Nat.blt pc 2 then (bif Nat.beq pc 1 then some (.iconst 0, 1, 0, 0, 0, .int 0) else none) else
    (bif Nat.beq pc 2 then some (.putfield 31, 3, 10, 0, 904, .int 0) else none))) else
  (bif Nat.blt pc 9 then (bif Nat.blt pc 6 then (bif Nat.beq pc 5 then some (.aload_n 0, 1, 0, 0, 0, mj_u) else none) else
    (bif Nat.beq pc 6 then some (.getfield 23, 3, 10, 1, 905, .null) else none)) else
   (bif Nat.blt pc 12 then (bif Nat.beq pc 9 then some (.invokevirtual 177, 3, 188, 0, 1348, mj_u) else none) else
    (bif Nat.beq pc 12 then some (.dreturn, 1, 0, 0, 0, mj_u) else none)))
def m_M_steepness : mj_M := (187, prog_11_method_43_code, 1, (Option.some Jvm.ClassFile.FieldType.double), 10, 0, 1347, 1345, 1346, 55, 13, k_M_steepness)
/-- WatershedMapModel$Land.steepness()D -/
def k_ML_steepness : Nat → Option mj_I := fun pc =>
  bif Nat.blt pc 41 then (bif Nat.blt pc 17 then (bif Nat.blt pc 6 then (bif Nat.blt pc 3 then (bif Nat.blt pc 1 then (bif Nat.beq pc 0 then some (.iconst 0, 1, 0, 0, 0, .int 0) else none) else
      (bif Nat.blt pc 2 then (bif Nat.beq pc 1 then some (.istore_n 1, 1, 1, 0, 0, mj_u) else none) else
       (bif Nat.beq pc 2 then some (.iconst 0, 1, 0, 0, 0, .int 0) else none))) else
     (bif Nat.blt pc 4 then (bif Nat.beq pc 3 then some (.istore_n 2, 1, 2, 0, 0, mj_u) else none) else
      (bif Nat.blt pc 5 then (bif Nat.beq pc 4 then some (.iload_n 2, 1, 2, 0, 0, mj_u) else none) else
       (bif Nat.beq pc 5 then some (.aload_n 0, 1, 0, 0, 0, mj_u) else none)))) else
    (bif Nat.blt pc 13 then (bif Nat.blt pc 9 then (bif Nat.beq pc 6 then some (.invokevirtual 45, 3, 127, 0, 981, mj_u) else none) else
      (bif Nat.blt pc 12 then (bif Nat.beq pc 9 then some (.if_icmp .ge 68, 3, 77, 0, 0, mj_u) else none) else
       (bif Nat.beq pc 12 then some (.iconst 0, 1, 0, 0, 0, .int 0) else none))) else
     (bif Nat.blt pc 14 then (bif Nat.beq pc 13 then some (.istore_n 3, 1, 3, 0, 0, mj_u) else none) else
      (bif Nat.blt pc 15 then (bif Nat.beq pc 14 then some (.iconst 0, 1, 0, 0, 0, .int 0) else none) else
       (bif Nat.beq pc 15 then some (.istore 4, 2, 4, 0, 0, mj_u) else none))))) else
   (bif Nat.blt pc 28 then (bif Nat.blt pc 24 then (bif Nat.blt pc 19 then (bif Nat.beq pc 17 then some (.iload 4, 2, 4, 0, 0, mj_u) else none) else
      (bif Nat.blt pc 21 then (bif Nat.beq pc 19 then some (.bipush 8, 2, 0, 0, 0, .int 8) else none) else
       (bif Nat.beq pc 21 then some (.if_icmp .ge 46, 3, 67, 0, 0, mj_u) else none))) else
     (bif Nat.blt pc 25 then (bif Nat.beq pc 24 then some (.aload_n 0, 1, 0, 0, 0, mj_u) else none) else
      (bif Nat.blt pc 26 then (bif Nat.beq pc 25 then some (.iload_n 2, 1, 2, 0, 0, mj_u) else none) else
       (bif Nat.beq pc 26 then some (.iload 4, 2, 4, 0, 0, mj_u) else none)))) else
    (bif Nat.blt pc 35 then (bif Nat.blt pc 31 then (bif Nat.beq pc 28 then some (.invokevirtual 53, 3, 134, 0, 1037, mj_u) else none) else
      (bif Nat.blt pc 34 then (bif Nat.beq pc 31 then some (.ifCond .lt 30, 3, 61, 0, 0, mj_u) else none) else
       (bif Nat.beq pc 34 then some (.iload_n 3, 1, 3, 0, 0, mj_u) else none))) else
     (bif Nat.blt pc 39 then (bif Nat.blt pc 36 then (bif Nat.beq pc 35 then some (.aload_n 0, 1, 0, 0, 0, mj_u) else none) else
       (bif Nat.beq pc 36 then some (.getfield 18, 3, 9, 2, 895, .null) else none)) else
      (bif Nat.blt pc 40 then (bif Nat.beq pc 39 then some (.iload_n 2, 1, 2, 0, 0, mj_u) else none) else
       (bif Nat.beq pc 40 then some (.iaload, 1, 0, 0, 0, mj_u) else none)))))) else
  (bif Nat.blt pc 67 then (bif Nat.blt pc 52 then (bif Nat.blt pc 46 then (bif Nat.blt pc 42 then (bif Nat.beq pc 41 then some (.aload_n 0, 1, 0, 0, 0, mj_u) else none) else
      (bif Nat.blt pc 45 then (bif Nat.beq pc 42 then some (.getfield 18, 3, 9, 2, 895, .null) else none) else
       (bif Nat.beq pc 45 then some (.aload_n 0, 1, 0, 0, 0, mj_u) else none))) else
     (bif Nat.blt pc 47 then (bif Nat.beq pc 46 then some (.iload_n 2, 1, 2, 0, 0, mj_u) else none) else
      (bif Nat.blt pc 49 then (bif Nat.beq pc 47 then some (.iload 4, 2, 4, 0, 0, mj_u) else none) else
       (bif Nat.beq pc 49 then some (.invokevirtual 53, 3, 134, 0, 1037, mj_u) else none)))) else
    (bif Nat.blt pc 57 then (bif Nat.blt pc 53 then (bif Nat.beq pc 52 then some (.iaload, 1, 0, 0, 0, mj_u) else none) else
      (bif Nat.blt pc 54 then (bif Nat.beq pc 53 then some (.isub, 1, 0, 0, 0, mj_u) else none) else
       (bif Nat.beq pc 54 then some (.invokestatic 105, 3, 54, 0, 1002, mj_u) else none))) else
     (bif Nat.blt pc 61 then (bif Nat.blt pc 60 then (bif Nat.beq pc 57 then some (.invokestatic 42, 3, 26, 0, 989, mj_u) else none) else
       (bif Nat.beq pc 60 then some (.istore_n 3, 1, 3, 0, 0, mj_u) else none)) else
      (bif Nat.blt pc 64 then (bif Nat.beq pc 61 then some (.iinc 4 1, 3, 4, 0, 0, .int 1) else none) else
       (bif Nat.beq pc 64 then some (.goto (-47), 3, 17, 0, 0, mj_u) else none))))) else
   (bif Nat.blt pc 77 then (bif Nat.blt pc 70 then (bif Nat.blt pc 68 then (bif Nat.beq pc 67 then some (.iload_n 1, 1, 1, 0, 0, mj_u) else none) else
      (bif Nat.blt pc 69 then (bif Nat.beq pc 68 then some (.iload_n 3, 1, 3, 0, 0, mj_u) else none) else
       (bif Nat.beq pc 69 then some (.iadd, 1, 0, 0, 0, mj_u) else none))) else
     (bif Nat.blt pc 71 then (bif Nat.beq pc 70 then some (.istore_n 1, 1, 1, 0, 0, mj_u) else none) else
      (bif Nat.blt pc 74 then (bif Nat.beq pc 71 then some (.iinc 2 1, 3, 2, 0, 0, .int 1) else none) else
       (bif Nat.beq pc 74 then some (.goto (-70), 3, 4, 0, 0, mj_u) else none)))) else
    (bif Nat.blt pc 80 then (bif Nat.blt pc 78 then (bif Nat.beq pc 77 then some (.iload_n 1, 1, 1, 0, 0, mj_u) else none) else
      (bif Nat.blt pc 79 then (bif Nat.beq pc 78 then some (.i2d, 1, 0, 0, 0, mj_u) else none) else
       (bif Nat.beq pc 79 then some (.aload_n 0, 1, 0, 0, 0, mj_u) else none))) else
     (bif Nat.blt pc 84 then (bif Nat.blt pc 83 then (bif Nat.beq pc 80 then some (.invokevirtual 45, 3, 127, 0, 981, mj_u) else none) else
       (bif Nat.beq pc 83 then some (.i2d, 1, 0, 0, 0, mj_u) else none)) else
      (bif Nat.blt pc 85 then (bif Nat.beq pc 84 then some (.ddiv, 1, 0, 0, 0, mj_u) else none) else
       (bif Nat.beq pc 85 then some (.dreturn, 1, 0, 0, 0, mj_u) else none))))))
def m_ML_steepness : mj_M := (188, prog_12_method_31_code, 5, (Option.some Jvm.ClassFile.FieldType.double), 9, 0, 1351, 1349, 1350, 56, 86, k_ML_steepness)
/-- WatershedMapModel.volumeWith(III)I -/
def k_M_volumeWith : Nat → Option mj_I := fun pc =>
  bif Nat.blt pc 26 then (bif Nat.blt pc 11 then (bif Nat.blt pc 3 then (bif Nat.blt pc 1 then (bif Nat.beq pc 0 then some (.aload_n 0, 1, 0, 0, 0, mj_u) else none) else
     (bif Nat.blt pc 2 then (bif Nat.beq pc 1 then some (.iload_n 1, 1, 1, 0, 0, mj_u) else none) else
      (bif Nat.beq pc 2 then some (.iload_n 2, 1, 2, 0, 0, mj_u) else none))) else
    (bif Nat.blt pc 9 then (bif Nat.blt pc 6 then (bif Nat.beq pc 3 then some (.invokevirtual 63, 3, 119, 0, 937, mj_u) else none) else
      (bif Nat.beq pc 6 then some (.ifCond .ne 27, 3, 33, 0, 0, mj_u) else none)) else
     (bif Nat.blt pc 10 then (bif Nat.beq pc 9 then some (.aload_n 0, 1, 0, 0, 0, mj_u) else none) else
      (bif Nat.beq pc 10 then some (.iload_n 3, 1, 3, 0, 0, mj_u) else none)))) else
   (bif Nat.blt pc 18 then (bif Nat.blt pc 12 then (bif Nat.beq pc 11 then some (.iconst 0, 1, 0, 0, 0, .int 0) else none) else
     (bif Nat.blt pc 15 then (bif Nat.beq pc 12 then some (.sipush 999, 3, 0, 0, 0, .int 999) else none) else
      (bif Nat.beq pc 15 then some (.invokestatic 41, 3, 115, 0, 922, mj_u) else none))) else
    (bif Nat.blt pc 22 then (bif Nat.blt pc 21 then (bif Nat.beq pc 18 then some (.ifCond .ne 7, 3, 25, 0, 0, mj_u) else none) else
      (bif Nat.beq pc 21 then some (.iconst 1, 1, 0, 0, 0, .int 1) else none)) else
     (bif Nat.blt pc 25 then (bif Nat.beq pc 22 then some (.goto 4, 3, 26, 0, 0, mj_u) else none) else
      (bif Nat.beq pc 25 then some (.iconst 0, 1, 0, 0, 0, .int 0) else none))))) else
  (bif Nat.blt pc 41 then (bif Nat.blt pc 33 then (bif Nat.blt pc 27 then (bif Nat.beq pc 26 then some (.iconst 2, 1, 0, 0, 0, .int 2) else none) else
     (bif Nat.blt pc 30 then (bif Nat.beq pc 27 then some (.invokevirtual 34, 3, 117, 0, 929, mj_u) else none) else
      (bif Nat.beq pc 30 then some (.ifCond .eq 7, 3, 37, 0, 0, mj_u) else none))) else
    (bif Nat.blt pc 37 then (bif Nat.blt pc 34 then (bif Nat.beq pc 33 then some (.iconst 0, 1, 0, 0, 0, .int 0) else none) else
      (bif Nat.beq pc 34 then some (.goto 20, 3, 54, 0, 0, mj_u) else none)) else
     (bif Nat.blt pc 38 then (bif Nat.beq pc 37 then some (.aload_n 0, 1, 0, 0, 0, mj_u) else none) else
      (bif Nat.beq pc 38 then some (.getfield 23, 3, 10, 1, 905, .null) else none)))) else
   (bif Nat.blt pc 47 then (bif Nat.blt pc 43 then (bif Nat.blt pc 42 then (bif Nat.beq pc 41 then some (.aload_n 0, 1, 0, 0, 0, mj_u) else none) else
      (bif Nat.beq pc 42 then some (.iload_n 1, 1, 1, 0, 0, mj_u) else none)) else
     (bif Nat.blt pc 44 then (bif Nat.beq pc 43 then some (.iload_n 2, 1, 2, 0, 0, mj_u) else none) else
      (bif Nat.beq pc 44 then some (.invokevirtual 66, 3, 121, 0, 945, mj_u) else none))) else
    (bif Nat.blt pc 51 then (bif Nat.blt pc 48 then (bif Nat.beq pc 47 then some (.iload_n 3, 1, 3, 0, 0, mj_u) else none) else
      (bif Nat.beq pc 48 then some (.invokevirtual 69, 3, 122, 0, 949, mj_u) else none)) else
     (bif Nat.blt pc 54 then (bif Nat.beq pc 51 then some (.invokevirtual 110, 3, 141, 0, 1046, mj_u) else none) else
      (bif Nat.beq pc 54 then some (.ireturn, 1, 0, 0, 0, mj_u) else none)))))
def m_M_volumeWith : mj_M := (189, prog_11_method_44_code, 4, (Option.some Jvm.ClassFile.FieldType.int), 10, 3, 1355, 1353, 1354, 55, 55, k_M_volumeWith)
/-- WatershedMapModel.endsWith(III)I -/
def k_M_endsWith : Nat → Option mj_I := fun pc =>
  bif Nat.blt pc 54 then (bif Nat.blt pc 26 then (bif Nat.blt pc 11 then (bif Nat.blt pc 3 then (bif Nat.blt pc 1 then (bif Nat.beq pc 0 then some (.aload_n 0, 1, 0, 0, 0, mj_u) else none) else
      (bif Nat.blt pc 2 then (bif Nat.beq pc 1 then some (.iload_n 1, 1, 1, 0, 0, mj_u) else none) else
       (bif Nat.beq pc 2 then some (.iload_n 2, 1, 2, 0, 0, mj_u) else none))) else
     (bif Nat.blt pc 9 then (bif Nat.blt pc 6 then (bif Nat.beq pc 3 then some (.invokevirtual 63, 3, 119, 0, 937, mj_u) else none) else
       (bif Nat.beq pc 6 then some (.ifCond .ne 27, 3, 33, 0, 0, mj_u) else none)) else
      (bif Nat.blt pc 10 then (bif Nat.beq pc 9 then some (.aload_n 0, 1, 0, 0, 0, mj_u) else none) else
       (bif Nat.beq pc 10 then some (.iload_n 3, 1, 3, 0, 0, mj_u) else none)))) else
    (bif Nat.blt pc 18 then (bif Nat.blt pc 12 then (bif Nat.beq pc 11 then some (.iconst 0, 1, 0, 0, 0, .int 0) else none) else
      (bif Nat.blt pc 15 then (bif Nat.beq pc 12 then some (.sipush 999, 3, 0, 0, 0, .int 999) else none) else
       (bif Nat.beq pc 15 then some (.invokestatic 41, 3, 115, 0, 922, mj_u) else none))) else
     (bif Nat.blt pc 22 then (bif Nat.blt pc 21 then (bif Nat.beq pc 18 then some (.ifCond .ne 7, 3, 25, 0, 0, mj_u) else none) else
       (bif Nat.beq pc 21 then some (.iconst 1, 1, 0, 0, 0, .int 1) else none)) else
      (bif Nat.blt pc 25 then (bif Nat.beq pc 22 then some (.goto 4, 3, 26, 0, 0, mj_u) else none) else
       (bif Nat.beq pc 25 then some (.iconst 0, 1, 0, 0, 0, .int 0) else none))))) else
   (bif Nat.blt pc 39 then (bif Nat.blt pc 33 then (bif Nat.blt pc 27 then (bif Nat.beq pc 26 then some (.iconst 2, 1, 0, 0, 0, .int 2) else none) else
      (bif Nat.blt pc 30 then (bif Nat.beq pc 27 then some (.invokevirtual 34, 3, 117, 0, 929, mj_u) else none) else
       (bif Nat.beq pc 30 then some (.ifCond .eq 5, 3, 35, 0, 0, mj_u) else none))) else
     (bif Nat.blt pc 35 then (bif Nat.blt pc 34 then (bif Nat.beq pc 33 then some (.iconst 0, 1, 0, 0, 0, .int 0) else none) else
       (bif Nat.beq pc 34 then some (.ireturn, 1, 0, 0, 0, mj_u) else none)) else
      (bif Nat.blt pc 36 then (bif Nat.beq pc 35 then some (.aload_n 0, 1, 0, 0, 0, mj_u) else none) else
       (bif Nat.beq pc 36 then some (.getfield 23, 3, 10, 1, 905, .null) else none)))) else
    (bif Nat.blt pc 48 then (bif Nat.blt pc 44 then (bif Nat.blt pc 42 then (bif Nat.beq pc 39 then some (.invokevirtual 102, 3, 136, 0, 1025, mj_u) else none) else
       (bif Nat.beq pc 42 then some (.astore 4, 2, 4, 0, 0, mj_u) else none)) else
      (bif Nat.blt pc 45 then (bif Nat.beq pc 44 then some (.aload_n 0, 1, 0, 0, 0, mj_u) else none) else
       (bif Nat.beq pc 45 then some (.getfield 23, 3, 10, 1, 905, .null) else none))) else
     (bif Nat.blt pc 50 then (bif Nat.blt pc 49 then (bif Nat.beq pc 48 then some (.aload_n 0, 1, 0, 0, 0, mj_u) else none) else
       (bif Nat.beq pc 49 then some (.iload_n 1, 1, 1, 0, 0, mj_u) else none)) else
      (bif Nat.blt pc 51 then (bif Nat.beq pc 50 then some (.iload_n 2, 1, 2, 0, 0, mj_u) else none) else
       (bif Nat.beq pc 51 then some (.invokevirtual 66, 3, 121, 0, 945, mj_u) else none)))))) else
  (bif Nat.blt pc 81 then (bif Nat.blt pc 67 then (bif Nat.blt pc 61 then (bif Nat.blt pc 55 then (bif Nat.beq pc 54 then some (.iload_n 3, 1, 3, 0, 0, mj_u) else none) else
      (bif Nat.blt pc 58 then (bif Nat.beq pc 55 then some (.invokevirtual 69, 3, 122, 0, 949, mj_u) else none) else
       (bif Nat.beq pc 58 then some (.invokevirtual 102, 3, 136, 0, 1025, mj_u) else none))) else
     (bif Nat.blt pc 64 then (bif Nat.blt pc 63 then (bif Nat.beq pc 61 then some (.astore 5, 2, 5, 0, 0, mj_u) else none) else
       (bif Nat.beq pc 63 then some (.iconst 0, 1, 0, 0, 0, .int 0) else none)) else
      (bif Nat.blt pc 66 then (bif Nat.beq pc 64 then some (.istore 6, 2, 6, 0, 0, mj_u) else none) else
       (bif Nat.beq pc 66 then some (.iconst 0, 1, 0, 0, 0, .int 0) else none)))) else
    (bif Nat.blt pc 73 then (bif Nat.blt pc 69 then (bif Nat.beq pc 67 then some (.istore 7, 2, 7, 0, 0, mj_u) else none) else
      (bif Nat.blt pc 71 then (bif Nat.beq pc 69 then some (.iload 7, 2, 7, 0, 0, mj_u) else none) else
       (bif Nat.beq pc 71 then some (.aload 4, 2, 4, 0, 0, mj_u) else none))) else
     (bif Nat.blt pc 77 then (bif Nat.blt pc 74 then (bif Nat.beq pc 73 then some (.arraylength, 1, 0, 0, 0, mj_u) else none) else
       (bif Nat.beq pc 74 then some (.if_icmp .ge 36, 3, 110, 0, 0, mj_u) else none)) else
      (bif Nat.blt pc 79 then (bif Nat.beq pc 77 then some (.iload 6, 2, 6, 0, 0, mj_u) else none) else
       (bif Nat.beq pc 79 then some (.aload 4, 2, 4, 0, 0, mj_u) else none))))) else
   (bif Nat.blt pc 97 then (bif Nat.blt pc 88 then (bif Nat.blt pc 83 then (bif Nat.beq pc 81 then some (.iload 7, 2, 7, 0, 0, mj_u) else none) else
      (bif Nat.blt pc 86 then (bif Nat.beq pc 83 then some (.invokestatic 128, 3, 151, 0, 1089, mj_u) else none) else
       (bif Nat.beq pc 86 then some (.aload 5, 2, 5, 0, 0, mj_u) else none))) else
     (bif Nat.blt pc 93 then (bif Nat.blt pc 90 then (bif Nat.beq pc 88 then some (.iload 7, 2, 7, 0, 0, mj_u) else none) else
       (bif Nat.beq pc 90 then some (.invokestatic 128, 3, 151, 0, 1089, mj_u) else none)) else
      (bif Nat.blt pc 96 then (bif Nat.beq pc 93 then some (.if_icmp .eq 7, 3, 100, 0, 0, mj_u) else none) else
       (bif Nat.beq pc 96 then some (.iconst 1, 1, 0, 0, 0, .int 1) else none)))) else
    (bif Nat.blt pc 104 then (bif Nat.blt pc 101 then (bif Nat.blt pc 100 then (bif Nat.beq pc 97 then some (.goto 4, 3, 101, 0, 0, mj_u) else none) else
       (bif Nat.beq pc 100 then some (.iconst 0, 1, 0, 0, 0, .int 0) else none)) else
      (bif Nat.blt pc 102 then (bif Nat.beq pc 101 then some (.iadd, 1, 0, 0, 0, mj_u) else none) else
       (bif Nat.beq pc 102 then some (.istore 6, 2, 6, 0, 0, mj_u) else none))) else
     (bif Nat.blt pc 110 then (bif Nat.blt pc 107 then (bif Nat.beq pc 104 then some (.iinc 7 1, 3, 7, 0, 0, .int 1) else none) else
       (bif Nat.beq pc 107 then some (.goto (-38), 3, 69, 0, 0, mj_u) else none)) else
      (bif Nat.blt pc 112 then (bif Nat.beq pc 110 then some (.iload 6, 2, 6, 0, 0, mj_u) else none) else
       (bif Nat.beq pc 112 then some (.ireturn, 1, 0, 0, 0, mj_u) else none))))))
def m_M_endsWith : mj_M := (190, prog_11_method_45_code, 8, (Option.some Jvm.ClassFile.FieldType.int), 10, 3, 1359, 1357, 1358, 55, 113, k_M_endsWith)
/-- WatershedMapModel.lookout(II)I -/
def k_M_lookout : Nat → Option mj_I := fun pc =>
  bif Nat.blt pc 57 then (bif Nat.blt pc 27 then (bif Nat.blt pc 11 then (bif Nat.blt pc 3 then (bif Nat.blt pc 1 then (bif Nat.beq pc 0 then some (.aload_n 0, 1, 0, 0, 0, mj_u) else none) else
      (bif Nat.blt pc 2 then (bif Nat.beq pc 1 then some (.iload_n 1, 1, 1, 0, 0, mj_u) else none) else
       (bif Nat.beq pc 2 then some (.iconst 0, 1, 0, 0, 0, .int 0) else none))) else
     (bif Nat.blt pc 7 then (bif Nat.blt pc 4 then (bif Nat.beq pc 3 then some (.aload_n 0, 1, 0, 0, 0, mj_u) else none) else
       (bif Nat.beq pc 4 then some (.getfield 23, 3, 10, 1, 905, .null) else none)) else
      (bif Nat.blt pc 10 then (bif Nat.beq pc 7 then some (.getfield 45, 3, 9, 1, 894, .int 0) else none) else
       (bif Nat.beq pc 10 then some (.iconst 1, 1, 0, 0, 0, .int 1) else none)))) else
    (bif Nat.blt pc 19 then (bif Nat.blt pc 15 then (bif Nat.blt pc 12 then (bif Nat.beq pc 11 then some (.isub, 1, 0, 0, 0, mj_u) else none) else
       (bif Nat.beq pc 12 then some (.invokestatic 41, 3, 115, 0, 922, mj_u) else none)) else
      (bif Nat.blt pc 18 then (bif Nat.beq pc 15 then some (.ifCond .ne 7, 3, 22, 0, 0, mj_u) else none) else
       (bif Nat.beq pc 18 then some (.iconst 1, 1, 0, 0, 0, .int 1) else none))) else
     (bif Nat.blt pc 23 then (bif Nat.blt pc 22 then (bif Nat.beq pc 19 then some (.goto 4, 3, 23, 0, 0, mj_u) else none) else
       (bif Nat.beq pc 22 then some (.iconst 0, 1, 0, 0, 0, .int 0) else none)) else
      (bif Nat.blt pc 24 then (bif Nat.beq pc 23 then some (.iconst 1, 1, 0, 0, 0, .int 1) else none) else
       (bif Nat.beq pc 24 then some (.invokevirtual 52, 3, 116, 0, 925, mj_u) else none))))) else
   (bif Nat.blt pc 43 then (bif Nat.blt pc 33 then (bif Nat.blt pc 31 then (bif Nat.blt pc 30 then (bif Nat.beq pc 27 then some (.ifCond .ne 27, 3, 54, 0, 0, mj_u) else none) else
       (bif Nat.beq pc 30 then some (.aload_n 0, 1, 0, 0, 0, mj_u) else none)) else
      (bif Nat.blt pc 32 then (bif Nat.beq pc 31 then some (.iload_n 2, 1, 2, 0, 0, mj_u) else none) else
       (bif Nat.beq pc 32 then some (.iconst 0, 1, 0, 0, 0, .int 0) else none))) else
     (bif Nat.blt pc 39 then (bif Nat.blt pc 36 then (bif Nat.beq pc 33 then some (.sipush 500, 3, 0, 0, 0, .int 500) else none) else
       (bif Nat.beq pc 36 then some (.invokestatic 41, 3, 115, 0, 922, mj_u) else none)) else
      (bif Nat.blt pc 42 then (bif Nat.beq pc 39 then some (.ifCond .ne 7, 3, 46, 0, 0, mj_u) else none) else
       (bif Nat.beq pc 42 then some (.iconst 1, 1, 0, 0, 0, .int 1) else none)))) else
    (bif Nat.blt pc 51 then (bif Nat.blt pc 47 then (bif Nat.blt pc 46 then (bif Nat.beq pc 43 then some (.goto 4, 3, 47, 0, 0, mj_u) else none) else
       (bif Nat.beq pc 46 then some (.iconst 0, 1, 0, 0, 0, .int 0) else none)) else
      (bif Nat.blt pc 48 then (bif Nat.beq pc 47 then some (.iconst 2, 1, 0, 0, 0, .int 2) else none) else
       (bif Nat.beq pc 48 then some (.invokevirtual 34, 3, 117, 0, 929, mj_u) else none))) else
     (bif Nat.blt pc 55 then (bif Nat.blt pc 54 then (bif Nat.beq pc 51 then some (.ifCond .eq 5, 3, 56, 0, 0, mj_u) else none) else
       (bif Nat.beq pc 54 then some (.iconst 0, 1, 0, 0, 0, .int 0) else none)) else
      (bif Nat.blt pc 56 then (bif Nat.beq pc 55 then some (.ireturn, 1, 0, 0, 0, mj_u) else none) else
       (bif Nat.beq pc 56 then some (.iconst 0, 1, 0, 0, 0, .int 0) else none)))))) else
  (bif Nat.blt pc 85 then (bif Nat.blt pc 70 then (bif Nat.blt pc 61 then (bif Nat.blt pc 58 then (bif Nat.beq pc 57 then some (.istore_n 3, 1, 3, 0, 0, mj_u) else none) else
      (bif Nat.blt pc 59 then (bif Nat.beq pc 58 then some (.iconst 1, 1, 0, 0, 0, .int 1) else none) else
       (bif Nat.beq pc 59 then some (.istore 4, 2, 4, 0, 0, mj_u) else none))) else
     (bif Nat.blt pc 64 then (bif Nat.blt pc 63 then (bif Nat.beq pc 61 then some (.iload 4, 2, 4, 0, 0, mj_u) else none) else
       (bif Nat.beq pc 63 then some (.aload_n 0, 1, 0, 0, 0, mj_u) else none)) else
      (bif Nat.blt pc 67 then (bif Nat.beq pc 64 then some (.getfield 23, 3, 10, 1, 905, .null) else none) else
       (bif Nat.beq pc 67 then some (.getfield 38, 3, 9, 0, 892, .int 0) else none)))) else
    (bif Nat.blt pc 78 then (bif Nat.blt pc 74 then (bif Nat.blt pc 73 then (bif Nat.beq pc 70 then some (.if_icmp .ge 44, 3, 114, 0, 0, mj_u) else none) else
       (bif Nat.beq pc 73 then some (.aload_n 0, 1, 0, 0, 0, mj_u) else none)) else
      (bif Nat.blt pc 77 then (bif Nat.beq pc 74 then some (.getfield 23, 3, 10, 1, 905, .null) else none) else
       (bif Nat.beq pc 77 then some (.aload_n 0, 1, 0, 0, 0, mj_u) else none))) else
     (bif Nat.blt pc 81 then (bif Nat.blt pc 80 then (bif Nat.beq pc 78 then some (.iload 4, 2, 4, 0, 0, mj_u) else none) else
       (bif Nat.beq pc 80 then some (.iload_n 1, 1, 1, 0, 0, mj_u) else none)) else
      (bif Nat.blt pc 84 then (bif Nat.beq pc 81 then some (.invokevirtual 66, 3, 121, 0, 945, mj_u) else none) else
       (bif Nat.beq pc 84 then some (.iload_n 2, 1, 2, 0, 0, mj_u) else none))))) else
   (bif Nat.blt pc 99 then (bif Nat.blt pc 93 then (bif Nat.blt pc 89 then (bif Nat.blt pc 88 then (bif Nat.beq pc 85 then some (.invokevirtual 168, 3, 181, 0, 1317, mj_u) else none) else
       (bif Nat.beq pc 88 then some (.aload_n 0, 1, 0, 0, 0, mj_u) else none)) else
      (bif Nat.blt pc 92 then (bif Nat.beq pc 89 then some (.getfield 23, 3, 10, 1, 905, .null) else none) else
       (bif Nat.beq pc 92 then some (.aload_n 0, 1, 0, 0, 0, mj_u) else none))) else
     (bif Nat.blt pc 95 then (bif Nat.blt pc 94 then (bif Nat.beq pc 93 then some (.iload_n 3, 1, 3, 0, 0, mj_u) else none) else
       (bif Nat.beq pc 94 then some (.iload_n 1, 1, 1, 0, 0, mj_u) else none)) else
      (bif Nat.blt pc 98 then (bif Nat.beq pc 95 then some (.invokevirtual 66, 3, 121, 0, 945, mj_u) else none) else
       (bif Nat.beq pc 98 then some (.iload_n 2, 1, 2, 0, 0, mj_u) else none)))) else
    (bif Nat.blt pc 108 then (bif Nat.blt pc 105 then (bif Nat.blt pc 102 then (bif Nat.beq pc 99 then some (.invokevirtual 168, 3, 181, 0, 1317, mj_u) else none) else
       (bif Nat.beq pc 102 then some (.if_icmp .le 6, 3, 108, 0, 0, mj_u) else none)) else
      (bif Nat.blt pc 107 then (bif Nat.beq pc 105 then some (.iload 4, 2, 4, 0, 0, mj_u) else none) else
       (bif Nat.beq pc 107 then some (.istore_n 3, 1, 3, 0, 0, mj_u) else none))) else
     (bif Nat.blt pc 114 then (bif Nat.blt pc 111 then (bif Nat.beq pc 108 then some (.iinc 4 1, 3, 4, 0, 0, .int 1) else none) else
       (bif Nat.beq pc 111 then some (.goto (-50), 3, 61, 0, 0, mj_u) else none)) else
      (bif Nat.blt pc 115 then (bif Nat.beq pc 114 then some (.iload_n 3, 1, 3, 0, 0, mj_u) else none) else
       (bif Nat.beq pc 115 then some (.ireturn, 1, 0, 0, 0, mj_u) else none))))))
def m_M_lookout : mj_M := (191, prog_11_method_46_code, 5, (Option.some Jvm.ClassFile.FieldType.int), 10, 2, 1363, 1361, 1362, 55, 116, k_M_lookout)
/-- WatershedMapModel.digest()J -/
def k_M_digest : Nat → Option mj_I := fun pc =>
  bif Nat.blt pc 125 then (bif Nat.blt pc 59 then (bif Nat.blt pc 26 then (bif Nat.blt pc 12 then (bif Nat.blt pc 8 then (bif Nat.blt pc 2 then (bif Nat.blt pc 1 then (bif Nat.beq pc 0 then some (.aload_n 0, 1, 0, 0, 0, mj_u) else none) else
        (bif Nat.beq pc 1 then some (.iconst 0, 1, 0, 0, 0, .int 0) else none)) else
       (bif Nat.blt pc 5 then (bif Nat.beq pc 2 then some (.putfield 31, 3, 10, 0, 904, .int 0) else none) else
        (bif Nat.beq pc 5 then some (.ldc2_w 183, 3, 0, 0, 1368, .long 58078) else none))) else
      (bif Nat.blt pc 10 then (bif Nat.blt pc 9 then (bif Nat.beq pc 8 then some (.lstore_n 1, 1, 1, 0, 0, mj_u) else none) else
        (bif Nat.beq pc 9 then some (.iconst 0, 1, 0, 0, 0, .int 0) else none)) else
       (bif Nat.blt pc 11 then (bif Nat.beq pc 10 then some (.istore_n 3, 1, 3, 0, 0, mj_u) else none) else
        (bif Nat.beq pc 11 then some (.iload_n 3, 1, 3, 0, 0, mj_u) else none)))) else
     (bif Nat.blt pc 18 then (bif Nat.blt pc 16 then (bif Nat.blt pc 13 then (bif Nat.beq pc 12 then some (.iconst 5, 1, 0, 0, 0, .int 5) else none) else
        (bif Nat.beq pc 13 then some (.if_icmp .ge 20, 3, 33, 0, 0, mj_u) else none)) else
       (bif Nat.blt pc 17 then (bif Nat.beq pc 16 then some (.lload_n 1, 1, 1, 0, 0, mj_u) else none) else
        (bif Nat.beq pc 17 then some (.aload_n 0, 1, 0, 0, 0, mj_u) else none))) else
      (bif Nat.blt pc 22 then (bif Nat.blt pc 19 then (bif Nat.beq pc 18 then some (.iload_n 3, 1, 3, 0, 0, mj_u) else none) else
        (bif Nat.beq pc 19 then some (.invokevirtual 122, 3, 145, 0, 1064, mj_u) else none)) else
       (bif Nat.blt pc 23 then (bif Nat.beq pc 22 then some (.i2l, 1, 0, 0, 0, mj_u) else none) else
        (bif Nat.beq pc 23 then some (.invokestatic 185, 3, 193, 0, 1369, mj_u) else none))))) else
    (bif Nat.blt pc 41 then (bif Nat.blt pc 34 then (bif Nat.blt pc 30 then (bif Nat.blt pc 27 then (bif Nat.beq pc 26 then some (.lstore_n 1, 1, 1, 0, 0, mj_u) else none) else
        (bif Nat.beq pc 27 then some (.iinc 3 1, 3, 3, 0, 0, .int 1) else none)) else
       (bif Nat.blt pc 33 then (bif Nat.beq pc 30 then some (.goto (-19), 3, 11, 0, 0, mj_u) else none) else
        (bif Nat.beq pc 33 then some (.lload_n 1, 1, 1, 0, 0, mj_u) else none))) else
      (bif Nat.blt pc 37 then (bif Nat.blt pc 35 then (bif Nat.beq pc 34 then some (.aload_n 0, 1, 0, 0, 0, mj_u) else none) else
        (bif Nat.beq pc 35 then some (.bipush 8, 2, 0, 0, 0, .int 8) else none)) else
       (bif Nat.blt pc 40 then (bif Nat.beq pc 37 then some (.invokevirtual 143, 3, 155, 0, 1104, mj_u) else none) else
        (bif Nat.beq pc 40 then some (.i2l, 1, 0, 0, 0, mj_u) else none)))) else
     (bif Nat.blt pc 50 then (bif Nat.blt pc 45 then (bif Nat.blt pc 44 then (bif Nat.beq pc 41 then some (.invokestatic 185, 3, 193, 0, 1369, mj_u) else none) else
        (bif Nat.beq pc 44 then some (.aload_n 0, 1, 0, 0, 0, mj_u) else none)) else
       (bif Nat.blt pc 47 then (bif Nat.beq pc 45 then some (.bipush 9, 2, 0, 0, 0, .int 9) else none) else
        (bif Nat.beq pc 47 then some (.invokevirtual 143, 3, 155, 0, 1104, mj_u) else none))) else
      (bif Nat.blt pc 54 then (bif Nat.blt pc 51 then (bif Nat.beq pc 50 then some (.i2l, 1, 0, 0, 0, mj_u) else none) else
        (bif Nat.beq pc 51 then some (.invokestatic 185, 3, 193, 0, 1369, mj_u) else none)) else
       (bif Nat.blt pc 55 then (bif Nat.beq pc 54 then some (.aload_n 0, 1, 0, 0, 0, mj_u) else none) else
        (bif Nat.blt pc 58 then (bif Nat.beq pc 55 then some (.invokevirtual 149, 3, 159, 0, 1120, mj_u) else none) else
         (bif Nat.beq pc 58 then some (.i2l, 1, 0, 0, 0, mj_u) else none))))))) else
   (bif Nat.blt pc 93 then (bif Nat.blt pc 75 then (bif Nat.blt pc 67 then (bif Nat.blt pc 63 then (bif Nat.blt pc 62 then (bif Nat.beq pc 59 then some (.invokestatic 185, 3, 193, 0, 1369, mj_u) else none) else
        (bif Nat.beq pc 62 then some (.aload_n 0, 1, 0, 0, 0, mj_u) else none)) else
       (bif Nat.blt pc 66 then (bif Nat.beq pc 63 then some (.invokevirtual 152, 3, 161, 0, 1128, mj_u) else none) else
        (bif Nat.beq pc 66 then some (.i2l, 1, 0, 0, 0, mj_u) else none))) else
      (bif Nat.blt pc 71 then (bif Nat.blt pc 70 then (bif Nat.beq pc 67 then some (.invokestatic 185, 3, 193, 0, 1369, mj_u) else none) else
        (bif Nat.beq pc 70 then some (.aload_n 0, 1, 0, 0, 0, mj_u) else none)) else
       (bif Nat.blt pc 74 then (bif Nat.beq pc 71 then some (.invokevirtual 158, 3, 164, 0, 1140, mj_u) else none) else
        (bif Nat.beq pc 74 then some (.i2l, 1, 0, 0, 0, mj_u) else none)))) else
     (bif Nat.blt pc 85 then (bif Nat.blt pc 79 then (bif Nat.blt pc 78 then (bif Nat.beq pc 75 then some (.invokestatic 185, 3, 193, 0, 1369, mj_u) else none) else
        (bif Nat.beq pc 78 then some (.aload_n 0, 1, 0, 0, 0, mj_u) else none)) else
       (bif Nat.blt pc 82 then (bif Nat.beq pc 79 then some (.getfield 23, 3, 10, 1, 905, .null) else none) else
        (bif Nat.beq pc 82 then some (.invokevirtual 110, 3, 141, 0, 1046, mj_u) else none))) else
      (bif Nat.blt pc 89 then (bif Nat.blt pc 86 then (bif Nat.beq pc 85 then some (.i2l, 1, 0, 0, 0, mj_u) else none) else
        (bif Nat.beq pc 86 then some (.invokestatic 185, 3, 193, 0, 1369, mj_u) else none)) else
       (bif Nat.blt pc 90 then (bif Nat.beq pc 89 then some (.lstore_n 1, 1, 1, 0, 0, mj_u) else none) else
        (bif Nat.blt pc 92 then (bif Nat.beq pc 90 then some (.bipush 100, 2, 0, 0, 0, .int 100) else none) else
         (bif Nat.beq pc 92 then some (.istore_n 3, 1, 3, 0, 0, mj_u) else none)))))) else
    (bif Nat.blt pc 110 then (bif Nat.blt pc 101 then (bif Nat.blt pc 97 then (bif Nat.blt pc 94 then (bif Nat.beq pc 93 then some (.iload_n 3, 1, 3, 0, 0, mj_u) else none) else
        (bif Nat.beq pc 94 then some (.sipush 400, 3, 0, 0, 0, .int 400) else none)) else
       (bif Nat.blt pc 100 then (bif Nat.beq pc 97 then some (.if_icmp .gt 46, 3, 143, 0, 0, mj_u) else none) else
        (bif Nat.beq pc 100 then some (.aload_n 0, 1, 0, 0, 0, mj_u) else none))) else
      (bif Nat.blt pc 105 then (bif Nat.blt pc 104 then (bif Nat.beq pc 101 then some (.getfield 23, 3, 10, 1, 905, .null) else none) else
        (bif Nat.beq pc 104 then some (.iload_n 3, 1, 3, 0, 0, mj_u) else none)) else
       (bif Nat.blt pc 108 then (bif Nat.beq pc 105 then some (.invokevirtual 161, 3, 169, 0, 1160, mj_u) else none) else
        (bif Nat.beq pc 108 then some (.astore 4, 2, 4, 0, 0, mj_u) else none)))) else
     (bif Nat.blt pc 116 then (bif Nat.blt pc 113 then (bif Nat.blt pc 111 then (bif Nat.beq pc 110 then some (.iconst 0, 1, 0, 0, 0, .int 0) else none) else
        (bif Nat.beq pc 111 then some (.istore 5, 2, 5, 0, 0, mj_u) else none)) else
       (bif Nat.blt pc 115 then (bif Nat.beq pc 113 then some (.iload 5, 2, 5, 0, 0, mj_u) else none) else
        (bif Nat.beq pc 115 then some (.iconst 3, 1, 0, 0, 0, .int 3) else none))) else
      (bif Nat.blt pc 120 then (bif Nat.blt pc 119 then (bif Nat.beq pc 116 then some (.if_icmp .ge 20, 3, 136, 0, 0, mj_u) else none) else
        (bif Nat.beq pc 119 then some (.lload_n 1, 1, 1, 0, 0, mj_u) else none)) else
       (bif Nat.blt pc 122 then (bif Nat.beq pc 120 then some (.aload 4, 2, 4, 0, 0, mj_u) else none) else
        (bif Nat.blt pc 124 then (bif Nat.beq pc 122 then some (.iload 5, 2, 5, 0, 0, mj_u) else none) else
         (bif Nat.beq pc 124 then some (.iaload, 1, 0, 0, 0, mj_u) else none)))))))) else
  (bif Nat.blt pc 190 then (bif Nat.blt pc 155 then (bif Nat.blt pc 139 then (bif Nat.blt pc 133 then (bif Nat.blt pc 129 then (bif Nat.blt pc 126 then (bif Nat.beq pc 125 then some (.i2l, 1, 0, 0, 0, mj_u) else none) else
        (bif Nat.beq pc 126 then some (.invokestatic 185, 3, 193, 0, 1369, mj_u) else none)) else
       (bif Nat.blt pc 130 then (bif Nat.beq pc 129 then some (.lstore_n 1, 1, 1, 0, 0, mj_u) else none) else
        (bif Nat.beq pc 130 then some (.iinc 5 1, 3, 5, 0, 0, .int 1) else none))) else
      (bif Nat.blt pc 137 then (bif Nat.blt pc 136 then (bif Nat.beq pc 133 then some (.goto (-20), 3, 113, 0, 0, mj_u) else none) else
        (bif Nat.beq pc 136 then some (.iload_n 3, 1, 3, 0, 0, mj_u) else none)) else
       (bif Nat.blt pc 138 then (bif Nat.beq pc 137 then some (.iconst 2, 1, 0, 0, 0, .int 2) else none) else
        (bif Nat.beq pc 138 then some (.imul, 1, 0, 0, 0, mj_u) else none)))) else
     (bif Nat.blt pc 147 then (bif Nat.blt pc 143 then (bif Nat.blt pc 140 then (bif Nat.beq pc 139 then some (.istore_n 3, 1, 3, 0, 0, mj_u) else none) else
        (bif Nat.beq pc 140 then some (.goto (-47), 3, 93, 0, 0, mj_u) else none)) else
       (bif Nat.blt pc 144 then (bif Nat.beq pc 143 then some (.aload_n 0, 1, 0, 0, 0, mj_u) else none) else
        (bif Nat.beq pc 144 then some (.getfield 23, 3, 10, 1, 905, .null) else none))) else
      (bif Nat.blt pc 151 then (bif Nat.blt pc 150 then (bif Nat.beq pc 147 then some (.invokevirtual 102, 3, 136, 0, 1025, mj_u) else none) else
        (bif Nat.beq pc 150 then some (.astore_n 3, 1, 3, 0, 0, mj_u) else none)) else
       (bif Nat.blt pc 152 then (bif Nat.beq pc 151 then some (.aload_n 0, 1, 0, 0, 0, mj_u) else none) else
        (bif Nat.beq pc 152 then some (.getfield 23, 3, 10, 1, 905, .null) else none))))) else
    (bif Nat.blt pc 171 then (bif Nat.blt pc 162 then (bif Nat.blt pc 159 then (bif Nat.blt pc 156 then (bif Nat.beq pc 155 then some (.aload_n 3, 1, 3, 0, 0, mj_u) else none) else
        (bif Nat.beq pc 156 then some (.invokevirtual 106, 3, 139, 0, 1038, mj_u) else none)) else
       (bif Nat.blt pc 161 then (bif Nat.beq pc 159 then some (.astore 4, 2, 4, 0, 0, mj_u) else none) else
        (bif Nat.beq pc 161 then some (.aload_n 0, 1, 0, 0, 0, mj_u) else none))) else
      (bif Nat.blt pc 168 then (bif Nat.blt pc 165 then (bif Nat.beq pc 162 then some (.getfield 23, 3, 10, 1, 905, .null) else none) else
        (bif Nat.beq pc 165 then some (.invokevirtual 113, 3, 142, 0, 1055, mj_u) else none)) else
       (bif Nat.blt pc 170 then (bif Nat.beq pc 168 then some (.astore 5, 2, 5, 0, 0, mj_u) else none) else
        (bif Nat.beq pc 170 then some (.iconst 0, 1, 0, 0, 0, .int 0) else none)))) else
     (bif Nat.blt pc 179 then (bif Nat.blt pc 175 then (bif Nat.blt pc 173 then (bif Nat.beq pc 171 then some (.istore 6, 2, 6, 0, 0, mj_u) else none) else
        (bif Nat.beq pc 173 then some (.iload 6, 2, 6, 0, 0, mj_u) else none)) else
       (bif Nat.blt pc 176 then (bif Nat.beq pc 175 then some (.aload_n 0, 1, 0, 0, 0, mj_u) else none) else
        (bif Nat.beq pc 176 then some (.getfield 23, 3, 10, 1, 905, .null) else none))) else
      (bif Nat.blt pc 185 then (bif Nat.blt pc 182 then (bif Nat.beq pc 179 then some (.invokevirtual 96, 3, 127, 0, 1012, mj_u) else none) else
        (bif Nat.beq pc 182 then some (.if_icmp .ge 68, 3, 250, 0, 0, mj_u) else none)) else
       (bif Nat.blt pc 186 then (bif Nat.beq pc 185 then some (.lload_n 1, 1, 1, 0, 0, mj_u) else none) else
        (bif Nat.blt pc 187 then (bif Nat.beq pc 186 then some (.aload_n 0, 1, 0, 0, 0, mj_u) else none) else
         (bif Nat.beq pc 187 then some (.getfield 23, 3, 10, 1, 905, .null) else none))))))) else
   (bif Nat.blt pc 219 then (bif Nat.blt pc 204 then (bif Nat.blt pc 197 then (bif Nat.blt pc 195 then (bif Nat.blt pc 193 then (bif Nat.beq pc 190 then some (.getfield 55, 3, 9, 2, 896, .null) else none) else
        (bif Nat.beq pc 193 then some (.iload 6, 2, 6, 0, 0, mj_u) else none)) else
       (bif Nat.blt pc 196 then (bif Nat.beq pc 195 then some (.iaload, 1, 0, 0, 0, mj_u) else none) else
        (bif Nat.beq pc 196 then some (.i2l, 1, 0, 0, 0, mj_u) else none))) else
      (bif Nat.blt pc 201 then (bif Nat.blt pc 200 then (bif Nat.beq pc 197 then some (.invokestatic 185, 3, 193, 0, 1369, mj_u) else none) else
        (bif Nat.beq pc 200 then some (.lstore_n 1, 1, 1, 0, 0, mj_u) else none)) else
       (bif Nat.blt pc 202 then (bif Nat.beq pc 201 then some (.iconst 0, 1, 0, 0, 0, .int 0) else none) else
        (bif Nat.beq pc 202 then some (.istore 7, 2, 7, 0, 0, mj_u) else none)))) else
     (bif Nat.blt pc 211 then (bif Nat.blt pc 207 then (bif Nat.blt pc 206 then (bif Nat.beq pc 204 then some (.iload 7, 2, 7, 0, 0, mj_u) else none) else
        (bif Nat.beq pc 206 then some (.iconst 5, 1, 0, 0, 0, .int 5) else none)) else
       (bif Nat.blt pc 210 then (bif Nat.beq pc 207 then some (.if_icmp .ge 26, 3, 233, 0, 0, mj_u) else none) else
        (bif Nat.beq pc 210 then some (.lload_n 1, 1, 1, 0, 0, mj_u) else none))) else
      (bif Nat.blt pc 214 then (bif Nat.blt pc 212 then (bif Nat.beq pc 211 then some (.aload_n 0, 1, 0, 0, 0, mj_u) else none) else
        (bif Nat.beq pc 212 then some (.iload 6, 2, 6, 0, 0, mj_u) else none)) else
       (bif Nat.blt pc 216 then (bif Nat.beq pc 214 then some (.iload 7, 2, 7, 0, 0, mj_u) else none) else
        (bif Nat.blt pc 217 then (bif Nat.beq pc 216 then some (.aload_n 3, 1, 3, 0, 0, mj_u) else none) else
         (bif Nat.beq pc 217 then some (.aload 4, 2, 4, 0, 0, mj_u) else none)))))) else
    (bif Nat.blt pc 236 then (bif Nat.blt pc 227 then (bif Nat.blt pc 223 then (bif Nat.blt pc 222 then (bif Nat.beq pc 219 then some (.invokevirtual 139, 3, 150, 0, 1084, mj_u) else none) else
        (bif Nat.beq pc 222 then some (.i2l, 1, 0, 0, 0, mj_u) else none)) else
       (bif Nat.blt pc 226 then (bif Nat.beq pc 223 then some (.invokestatic 185, 3, 193, 0, 1369, mj_u) else none) else
        (bif Nat.beq pc 226 then some (.lstore_n 1, 1, 1, 0, 0, mj_u) else none))) else
      (bif Nat.blt pc 233 then (bif Nat.blt pc 230 then (bif Nat.beq pc 227 then some (.iinc 7 1, 3, 7, 0, 0, .int 1) else none) else
        (bif Nat.beq pc 230 then some (.goto (-26), 3, 204, 0, 0, mj_u) else none)) else
       (bif Nat.blt pc 234 then (bif Nat.beq pc 233 then some (.lload_n 1, 1, 1, 0, 0, mj_u) else none) else
        (bif Nat.beq pc 234 then some (.aload 5, 2, 5, 0, 0, mj_u) else none)))) else
     (bif Nat.blt pc 243 then (bif Nat.blt pc 239 then (bif Nat.blt pc 238 then (bif Nat.beq pc 236 then some (.iload 6, 2, 6, 0, 0, mj_u) else none) else
        (bif Nat.beq pc 238 then some (.iaload, 1, 0, 0, 0, mj_u) else none)) else
       (bif Nat.blt pc 240 then (bif Nat.beq pc 239 then some (.i2l, 1, 0, 0, 0, mj_u) else none) else
        (bif Nat.beq pc 240 then some (.invokestatic 185, 3, 193, 0, 1369, mj_u) else none))) else
      (bif Nat.blt pc 247 then (bif Nat.blt pc 244 then (bif Nat.beq pc 243 then some (.lstore_n 1, 1, 1, 0, 0, mj_u) else none) else
        (bif Nat.beq pc 244 then some (.iinc 6 1, 3, 6, 0, 0, .int 1) else none)) else
       (bif Nat.blt pc 250 then (bif Nat.beq pc 247 then some (.goto (-74), 3, 173, 0, 0, mj_u) else none) else
        (bif Nat.blt pc 251 then (bif Nat.beq pc 250 then some (.lload_n 1, 1, 1, 0, 0, mj_u) else none) else
         (bif Nat.beq pc 251 then some (.lreturn, 1, 0, 0, 0, mj_u) else none))))))))
def m_M_digest : mj_M := (192, prog_11_method_48_code, 8, (Option.some Jvm.ClassFile.FieldType.long), 10, 0, 1367, 1365, 1366, 55, 252, k_M_digest)
/-- WatershedMapModel.add(JJ)J static -/
def k_M_add : Nat → Option mj_I := fun pc =>
  bif Nat.blt pc 5 then (bif Nat.blt pc 1 then (bif Nat.beq pc 0 then some (.lload_n 0, 1, 0, 0, 0, mj_u) else none) else
   (bif Nat.blt pc 4 then (bif Nat.beq pc 1 then some (.ldc2_w 181, 3, 0, 0, 1372, .long 31) else none) else
    (bif Nat.beq pc 4 then some (.lmul, 1, 0, 0, 0, mj_u) else none))) else
  (bif Nat.blt pc 6 then (bif Nat.beq pc 5 then some (.lload_n 2, 1, 2, 0, 0, mj_u) else none) else
   (bif Nat.blt pc 7 then (bif Nat.beq pc 6 then some (.ladd, 1, 0, 0, 0, mj_u) else none) else
    (bif Nat.beq pc 7 then some (.lreturn, 1, 0, 0, 0, mj_u) else none)))
def m_M_add : mj_M := (193, prog_11_method_47_code, 4, (Option.some Jvm.ClassFile.FieldType.long), 10, 2, 1371, 1370, 0, 55, 8, k_M_add)
